/-! the answers of class and reference are the same -/
section ANS
variable {N n : Nat} {σ : Sg}
theorem a_func (hk : KX σ n) (hj : JX σ) (x y : Int32) : Ok (f_X11_func N n σ x y) (fun a => Ok (f_X12_func N n a.2 x y) (fun z => a.1 = z.1 ∧ KX z.2 n ∧ JX z.2)) := by
  obtain ⟨⟨r, σ1⟩, e, ⟨⟨r2, τ2⟩, e2, hh⟩⟩ := j_func (N := N) hk hj x y
  refine ⟨(r, σ1), e, (r2, τ2), e2, ?_, hh⟩
  show r = r2
  obtain ⟨F, Wd, ar, lo, st, le, hjb⟩ := hj
  have fr : ∀ c j, 58 < c → σ1 c j = σ c j := fun c j q => fr_X11_func (nt_lo (m := 59) (by decide) (by decide) q) e
  obtain ⟨⟨hp, hr, hw⟩, h2, h3, -⟩ := jx_mid hjb fr
  have e2 : f_X12_func N n σ1 x y = some (r2, τ2) := e2
  have hF := hp.2.1
  have l12 : (nI F < 12) = (F < 12) := lt_nl (k := 12) (by omega) (by decide)
  unfold f_X11_func at e
  unfold f_X12_func at e2
  rw [hr.1, h2] at e2
  rw [hp.1] at e
  have fin : ∀ {a b : Int32} {s t : Sg}, a = b → some (a, s) = some (r, σ1) → some (b, t) = some (r2, τ2) → r = r2 := fun q q1 q2 => by
    rw [← (Prod.mk.inj (Option.some.inj q1)).1, ← (Prod.mk.inj (Option.some.inj q2)).1]; exact q
  by_cases c1 : x < 0
  · rw [if_pos c1] at e e2; exact fin rfl e e2
  rw [if_neg c1] at e e2
  by_cases c2 : 6 < x
  · rw [if_pos c2] at e e2; exact fin rfl e e2
  rw [if_neg c2] at e e2
  by_cases c3 : y < x
  · rw [if_pos c3] at e e2; exact fin rfl e e2
  rw [if_neg c3] at e e2
  by_cases c4 : 10 < y
  · rw [if_pos c4] at e e2; exact fin rfl e e2
  rw [if_neg c4] at e e2
  by_cases c5 : σ 1 9 = 0
  · rw [if_pos c5] at e e2
    by_cases c6 : F < 12
    · rw [if_pos (show nI F < 12 by rw [l12]; exact c6)] at e
      rw [if_neg (show ¬ nI F = 12 from fun q => by
        have := (nI_eq (a := F) (b := 12) (by omega) (by decide)).mp q
        omega), gb_nI c6 (by decide), gb_nI c6 (by decide), gb_nI c6 (by decide), gb_nI c6 (by decide)] at e2
      unfold f_X6_addFunc at e
      rw [hp.1, gb_nI c6 (by decide), gb_nI c6 (by decide), gb_nI c6 (by decide), gb_nI c6 (by decide), bd_s] at e
      exact fin rfl e e2
    · rw [if_neg (show ¬ nI F < 12 by rw [l12]; exact c6)] at e
      rw [if_pos (show nI F = 12 by rw [show F = 12 by omega]; rfl)] at e2
      exact fin rfl e e2
  · rw [if_neg c5] at e e2
    by_cases c6 : nI F = 12
    · rw [if_pos c6] at e2; exact fin rfl e e2
    · rw [if_neg c6] at e2; exact fin rfl e e2
theorem a_word (hk : KX σ n) (hj : JX σ) (x y : Int32) : Ok (f_X11_word N n σ x y) (fun a => Ok (f_X12_word N n a.2 x y) (fun z => a.1 = z.1 ∧ KX z.2 n ∧ JX z.2)) := by
  obtain ⟨⟨r, σ1⟩, e, ⟨⟨r2, τ2⟩, e2, hh⟩⟩ := j_word (N := N) hk hj x y
  refine ⟨(r, σ1), e, (r2, τ2), e2, ?_, hh⟩
  show r = r2
  obtain ⟨F, Wd, ar, lo, st, le, hjb⟩ := hj
  have fr : ∀ c j, 58 < c → σ1 c j = σ c j := fun c j q => fr_X11_word (nt_lo (m := 59) (by decide) (by decide) q) e
  obtain ⟨⟨hp, hr, hw⟩, h2, h3, -⟩ := jx_mid hjb fr
  have e2 : f_X12_word N n σ1 x y = some (r2, τ2) := e2
  have hF := hp.2.1
  have hWd := hp.2.2.2.1
  have l300 : (nI Wd < 300) = (Wd < 300) := lt_nl (k := 300) (by omega) (by decide)
  unfold f_X11_word at e
  unfold f_X12_word at e2
  rw [hr.1, h2, hr.2.2.1] at e2
  rw [hp.1, hp.2.2.1] at e
  have fin : ∀ {a b : Int32} {s t : Sg}, a = b → some (a, s) = some (r, σ1) → some (b, t) = some (r2, τ2) → r = r2 := fun q q1 q2 => by
    rw [← (Prod.mk.inj (Option.some.inj q1)).1, ← (Prod.mk.inj (Option.some.inj q2)).1]; exact q
  by_cases c1 : nI F = 0
  · rw [if_pos c1] at e e2; exact fin rfl e e2
  rw [if_neg c1] at e e2
  have hF0 : 0 < F := Nat.pos_of_ne_zero (fun q => c1 (by rw [q]; rfl))
  by_cases c5 : σ 1 9 = 0
  · rw [if_pos c5] at e e2
    by_cases c6 : Wd < 300
    · have oF : F - OfNat.ofNat 1 = F - 1 := rfl
      rw [if_pos (show nI Wd < 300 by rw [l300]; exact c6)] at e
      rw [if_neg (show ¬ nI Wd = 300 from fun q => by
        have := (nI_eq (a := Wd) (b := 300) (by omega) (by decide)).mp q
        omega), sb_nl (k := 1) (show 1 ≤ F by omega), oF, gb_nI c6 (by decide), gb_nI c6 (by decide), gb_nI (show F - 1 < 12 by omega) (by decide), gb_nI (show F - 1 < 12 by omega) (by decide), gb_nI (show F - 1 < 12 by omega) (by decide), ix_nI (k := F - 1) (by omega)] at e2
      unfold f_X6_addWord at e
      rw [hp.1, hp.2.2.1, sb_nl (k := 1) (show 1 ≤ F by omega), oF, gb_nI c6 (by decide), gb_nI c6 (by decide), gb_nI (show F - 1 < 12 by omega) (by decide), gb_nI (show F - 1 < 12 by omega) (by decide), gb_nI (show F - 1 < 12 by omega) (by decide), ix_nI (k := F - 1) (by omega), bd_s] at e
      refine fin ?_ e e2
      rw [hp.2.2.2.2.2.2.2.1 (F - 1) (by omega), hr.2.2.2.2.2.2.2.1 (F - 1) (by omega)]
    · rw [if_neg (show ¬ nI Wd < 300 by rw [l300]; exact c6)] at e
      rw [if_pos (show nI Wd = 300 by rw [show Wd = 300 by omega]; rfl)] at e2
      exact fin rfl e e2
  · rw [if_neg c5] at e e2
    by_cases c6 : nI Wd = 300
    · rw [if_pos c6] at e2; exact fin rfl e e2
    · rw [if_neg c6] at e2; exact fin rfl e e2
theorem a_check (hN : 200000 ≤ N) (hk : KX σ n) (hj : JX σ) : Ok (f_X11_check N n σ) (fun a => Ok (f_X12_check N n a.2) (fun z => a.1 = z.1 ∧ KX z.2 n ∧ JX z.2)) := by
  obtain ⟨⟨r, σ1⟩, e, ⟨⟨r2, τ2⟩, e2, hh⟩⟩ := j_check (N := N) hN hk hj
  refine ⟨(r, σ1), e, (r2, τ2), e2, ?_, hh⟩
  have e2 : f_X12_check N n σ1 = some (r2, τ2) := e2
  obtain ⟨F, Wd, ar, lo, st, le, hjb⟩ := hj
  have fr : ∀ c j, 58 < c → σ1 c j = σ c j := fun c j q => fr_X11_check (nt_lo (m := 59) (by decide) (by decide) q) e
  obtain ⟨hR, h2, h3, -⟩ := jx_mid hjb fr
  obtain ⟨a, b, ea, eb, hab, -⟩ := check_rel (N := N) (n := n) hN hR h2 h3
  rw [← Option.some.inj (e.symm.trans ea), ← Option.some.inj (e2.symm.trans eb)] at hab
  exact hab
theorem a_runStack (hN : 30000 ≤ N) (hk : KX σ n) (hj : JX σ) (x : Int32) : Ok (f_X11_runStack N n σ x) (fun a => Ok (f_X12_runStack N n a.2 x) (fun z => a.1 = z.1 ∧ KX z.2 n ∧ JX z.2)) := by
  obtain ⟨⟨r, σ1⟩, e, ⟨⟨r2, τ2⟩, e2, hh⟩⟩ := j_runStack (N := N) hN hk hj x
  refine ⟨(r, σ1), e, (r2, τ2), e2, ?_, hh⟩
  have e2 : f_X12_runStack N n σ1 x = some (r2, τ2) := e2
  obtain ⟨F, Wd, ar, lo, st, le, hjb⟩ := hj
  have fr : ∀ c j, 58 < c → σ1 c j = σ c j := fun c j q => fr_X11_runStack (nt_lo (m := 59) (by decide) (by decide) q) e
  obtain ⟨hR, h2, h3, h4, h5, -⟩ := jx_mid hjb fr
  obtain ⟨w1, w2⟩ := kx_get hk hR.1
  obtain ⟨a, b, ea, eb, hab, -⟩ := runStack_rel (N := N) (n := n) hN hR h2 w1 h3 w2 h5 x
  rw [← Option.some.inj (e.symm.trans ea), ← Option.some.inj (e2.symm.trans eb)] at hab
  exact hab
theorem a_again (hN : 1000 ≤ N) (hk : KX σ n) (hj : JX σ) : Ok (f_X11_again N n σ) (fun a => Ok (f_X12_again N n a.2) (fun z => a.1 = z.1 ∧ KX z.2 n ∧ JX z.2)) := by
  obtain ⟨⟨r, σ1⟩, e, ⟨⟨r2, τ2⟩, e2, hh⟩⟩ := j_again (N := N) hN hk hj
  refine ⟨(r, σ1), e, (r2, τ2), e2, ?_, hh⟩
  show r = r2
  have e2 : f_X12_again N n σ1 = some (r2, τ2) := e2
  obtain ⟨F, Wd, ar, lo, st, le, hjb⟩ := hj
  have fr : ∀ c j, 58 < c → σ1 c j = σ c j := fun c j q => fr_X11_again (nt_lo (m := 59) (by decide) (by decide) q) e
  obtain ⟨hR, h2, h3, -⟩ := jx_mid hjb fr
  unfold f_X11_again at e
  unfold f_X12_again at e2
  by_cases c1 : σ 1 9 = 0
  · rw [if_pos c1] at e
    rw [if_pos (h2.trans c1)] at e2
    have q1 := (Prod.mk.inj (Option.some.inj e)).1
    have q2 := (Prod.mk.inj (Option.some.inj (g01_some e2).2)).1
    rw [← q1, ← q2, h2, c1]
  · rw [if_neg c1] at e
    rw [if_neg (fun q => c1 (h2.symm.trans q))] at e2
    obtain ⟨_, _, _, e3⟩ := bd_some e
    obtain ⟨_, σ4, e4, e5⟩ := bd_some e2
    have q1 := (Prod.mk.inj (Option.some.inj e3)).1
    have q2 := (Prod.mk.inj (Option.some.inj (g01_some e5).2)).1
    have q3 : σ4 59 10 = σ1 59 10 := (fr_X12_begin (c := 59) (j := 10) rfl e4).trans (sg_ne (by decide))
    rw [← q1, ← q2, q3, h2, h3.resolve_left c1]
theorem a_depth (hk : KX σ n) (hj : JX σ) (x y : Int32) : Ok (f_X11_depth N n σ x y) (fun a => Ok (f_X12_depth N n a.2 x y) (fun z => a.1 = z.1 ∧ KX z.2 n ∧ JX z.2)) := by
  obtain ⟨F, Wd, ar, lo, st, le, hjb⟩ := hj
  obtain ⟨⟨r, σ1⟩, e, hs⟩ := depth_ok (N := N) (n := n) (kx_CI hk) x y
  have hs : σ1 = σ := hs
  subst hs
  obtain ⟨⟨hp, hr, hw⟩, h2, h3, h4, -⟩ := id hjb
  have lk : Lk σ1 (f_X12_depth N n σ1 x y) := ok_mono (rdepth_ok hr x y) (fun y hy c j q => by
    have hy : y.2 = sg σ1 59 0 0 := hy
    rw [hy]; exact sg_o (by omega))
  obtain ⟨⟨r2, τ2⟩, e2, hh⟩ := j_look hk hjb (fun _ _ _ => rfl) lk
  refine ⟨(r, σ1), e, (r2, τ2), e2, ?_, hh⟩
  show r = r2
  have hF := hp.2.1
  unfold f_X11_depth f_X6_hasFunc at e
  unfold f_X12_depth at e2
  rw [h2, hr.1] at e2
  rw [hp.1] at e
  have fin : ∀ {a b : Int32} {s t : Sg}, a = b → some (a, s) = some (r, σ1) → some (b, t) = some (r2, τ2) → r = r2 := fun q q1 q2 => by
    rw [← (Prod.mk.inj (Option.some.inj q1)).1, ← (Prod.mk.inj (Option.some.inj q2)).1]; exact q
  by_cases c1 : σ1 1 9 = 0
  · rw [if_pos c1] at e e2; exact fin rfl e e2
  rw [if_neg c1] at e e2
  by_cases c2 : x < 0
  · rw [if_pos c2] at e e2; rw [bd_s, if_pos rfl] at e; exact fin rfl e e2
  rw [if_neg c2] at e e2
  by_cases c3 : nI F ≤ x
  · rw [if_pos c3] at e e2; rw [bd_s, if_pos rfl] at e; exact fin rfl e e2
  rw [if_neg c3] at e e2
  rw [bd_s, if_neg (by decide)] at e
  rcases cs_n x with q | ⟨f, hf, rfl⟩
  · exact absurd q c2
  rw [le_nn (by omega) (by omega)] at c3
  have hfF : f < F := by omega
  have q9 := hp.2.2.2.2.2.2.2.2.1 f hfF
  have hWd := hp.2.2.2.1
  by_cases c4 : y < 0
  · rw [if_pos c4] at e e2; exact fin rfl e e2
  rw [if_neg c4] at e e2
  rw [gb_nI (show f < 12 by omega) (by decide), ix_nI (k := f) (by omega), hp.2.2.2.2.2.2.2.1 f hfF, hp.2.2.2.2.2.2.1 f hfF] at e
  rw [gb_nI (show f < 12 by omega) (by decide), ix_nI (k := f) (by omega), hr.2.2.2.2.2.2.2.1 f hfF, hr.2.2.2.2.2.2.1 f hfF] at e2
  by_cases c5 : y < nI (le f)
  · rw [if_pos c5] at e e2
    rcases cs_n y with q | ⟨w, hw2, rfl⟩
    · exact absurd q c4
    rw [lt_nn (by omega) (by omega)] at c5
    rw [gb_nI (show f < 12 by omega) (by decide), ad_nn, gb_nI (show st f + w < 300 by omega) (by decide), ix_nI (k := st f + w) (by omega)] at e e2
    exact fin (h4 (h3.resolve_left c1) f hfF w c5).symm e e2
  · rw [if_neg c5] at e e2; exact fin rfl e e2
end ANS
