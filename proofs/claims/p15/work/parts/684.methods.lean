/-! the functions of PI are given by the cells -/
theorem ww_fn {σ : Sg} {F : Nat} {ar lo st le ar' lo' st' le' : Nat → Nat} (hA : ∀ g, g < F → ar g = ar' g ∧ lo g = lo' g ∧ st g = st' g ∧ le g = le' g) {f w : Nat} (hf : f < F) (h : WW σ F ar lo st le f w) : WW σ F ar' lo' st' le' f w := by
  obtain ⟨-, e2, e3, e4⟩ := hA f hf
  obtain ⟨k, y, d, a1, a2, a3, a4, a5, a6, a7, a8, a9, a10⟩ := h
  have et : tkN ar k y = tkN ar' k y := tk_fn (fun g hg => (hA g hg).1) (fun q => (a9 q).1)
  unfold WW
  rw [← e2, ← e3, ← e4]
  refine ⟨k, y, d, a1, a2, a3, a4, ?_, ?_, a7, ?_, a9, ?_⟩
  · rw [← et]; exact a5
  · rw [← et]; exact a6
  · rw [← et]; exact a8
  · rw [← et]; exact a10
theorem wf_fn {σ : Sg} {F : Nat} {ar lo st le ar' lo' st' le' : Nat → Nat} (hA : ∀ g, g < F → ar g = ar' g ∧ lo g = lo' g ∧ st g = st' g ∧ le g = le' g) {f : Nat} (hf : f < F) (h : WF σ F ar lo st le f) : WF σ F ar' lo' st' le' f := by
  obtain ⟨-, e2, e3, e4⟩ := hA f hf
  obtain ⟨h1, h2⟩ := h
  refine ⟨by rw [← e3]; exact h1, fun w hw => ?_⟩
  rw [← e4] at hw
  rcases h2 w hw with q | q
  · exact Or.inl (by rw [← e3]; exact q)
  · exact Or.inr (ww_fn hA hf q)
theorem se_fn {σ : Sg} {F : Nat} {st le st' le' : Nat → Nat} (hA : ∀ g, g < F → st g = st' g ∧ le g = le' g) (h : SE F st le σ) : SE F st' le' σ := by
  rcases h with q | ⟨h, fn, nx, bt, tp, s1, s2, s3, s4, s5, s6, s7, s8⟩
  · exact Or.inl q
  · refine Or.inr ⟨h, fn, nx, bt, tp, s1, s2, s3, s4, fun r hr => ?_, fun hh => ?_, s7, s8⟩
    · obtain ⟨e1, e2⟩ := hA (fn r) (s4 r (by omega)).1
      rw [← e1, ← e2]; exact s5 r hr
    · obtain ⟨e1, e2⟩ := hA (fn (h - 1)) (s4 (h - 1) (by omega)).1
      rw [← e1, ← e2]; exact s6 hh
theorem kx_get {σ : Sg} {n F Wd : Nat} {ar lo st le : Nat → Nat} (h : KX σ n) (hp : PI σ F Wd ar lo st le) : (σ 1 9 = 1 → 0 < F ∧ (∀ f, f < F → 0 < le f) ∧ ∀ f, f < F → WF σ F ar lo st le f) ∧ (σ 1 9 = 1 → SE F st le σ) := by
  obtain ⟨F', Wd', ar', lo', st', le', hp', -, hW, -, hS, -⟩ := h
  obtain ⟨g1, g2, g3, g4, g5, g6, g7, g8, g9, -⟩ := hp
  obtain ⟨k1, k2, k3, k4, k5, k6, k7, k8, k9, -⟩ := hp'
  obtain rfl : F' = F := (nI_eq (by omega) (by omega)).mp (k1.symm.trans g1)
  have hA : ∀ g, g < F' → ar' g = ar g ∧ lo' g = lo g ∧ st' g = st g ∧ le' g = le g := fun g hg => by
    have a := g9 g hg
    have b := k9 g hg
    exact ⟨(nI_eq (by omega) (by omega)).mp ((k5 g hg).symm.trans (g5 g hg)), (nI_eq (by omega) (by omega)).mp ((k6 g hg).symm.trans (g6 g hg)), (nI_eq (by omega) (by omega)).mp ((k7 g hg).symm.trans (g7 g hg)), (nI_eq (by omega) (by omega)).mp ((k8 g hg).symm.trans (g8 g hg))⟩
  refine ⟨fun q => ⟨(hW q).1, fun f hf => ?_, fun f hf => wf_fn hA hf ((hW q).2.2 f hf)⟩, fun q => se_fn (fun g hg => (hA g hg).2.2) (hS q)⟩
  rw [← (hA f hf).2.2.2]
  exact (hW q).2.1 f hf
def JZ (σ τ : Sg) : Prop := ∃ F Wd, ∃ ar lo st le : Nat → Nat, JB σ τ F Wd ar lo st le
theorem j_fin {n : Nat} {σ1 : Sg} {x : Option (Int32 × Sg)} (hk : KX σ1 n) (h : Ok x (fun z => JZ σ1 z.2)) (fr : ∀ r σ', x = some (r, σ') → ∀ c j, c ≤ 58 → σ' c j = σ1 c j) : Ok x (fun z => KX z.2 n ∧ JX z.2) := by
  obtain ⟨⟨r, σ'⟩, e, F, Wd, ar, lo, st, le, hj⟩ := h
  exact ⟨(r, σ'), e, jx_of hk hj (fr r σ' e)⟩
theorem pi_17 {σ σ' : Sg} {F Wd : Nat} {ar lo st le : Nat → Nat} (h : PI σ F Wd ar lo st le) (e : ∀ c j, c ≤ 7 → ¬ (c = 1 ∧ j = 9) → σ' c j = σ c j) : PI σ' F Wd ar lo st le := by
  obtain ⟨h1, h2, h3, h4, h5, h6, h7, h8, h9⟩ := h
  exact ⟨(e 1 7 (by decide) (by decide)).trans h1, h2, (e 1 8 (by decide) (by decide)).trans h3, h4, fun f hf => (e 2 f (by decide) (by omega)).trans (h5 f hf), fun f hf => (e 3 f (by decide) (by omega)).trans (h6 f hf), fun f hf => (e 4 f (by decide) (by omega)).trans (h7 f hf), fun f hf => (e 5 f (by decide) (by omega)).trans (h8 f hf), h9⟩
section JM
variable {N n : Nat} {σ σ1 τ τ' : Sg} {F Wd : Nat} {ar lo st le : Nat → Nat}
theorem mz_cls (h : MZ σ) (e : ∀ j, σ1 45 j = σ 45 j) : MZ σ1 := ⟨(e 3).trans h.1, (e 4).trans h.2.1, (e 5).trans h.2.2.1, (e 6).trans h.2.2.2.1, (e 7).trans h.2.2.2.2⟩
theorem jb_unch {F' Wd' : Nat} {ar' lo' st' le' : Nat → Nat} (h : JB σ τ F Wd ar lo st le) (q : σ 1 9 = 0) (q1 : σ1 1 9 = 0) (e10 : τ' 59 10 = τ 59 10) (e37 : τ' 59 37 = τ 59 37) (hc : ∀ c j, 45 ≤ c → c ≤ 51 → σ1 c j = σ c j) (hr : ∀ c j, c = 75 ∨ (88 ≤ c ∧ c ≤ 100) → τ' c j = τ c j) (hR : Rl σ1 τ' F' Wd' ar' lo' st' le') : JB σ1 τ' F' Wd' ar' lo' st' le' := by
  obtain ⟨h1, h2, h3, h4, h5, h6, h7, h8, h9⟩ := h
  have m1 : MZ σ1 := mz_cls (h6 q) (fun j => hc 45 j (by decide) (by decide))
  refine ⟨hR, by rw [e10, h2, q, q1], Or.inl q1, fun z => absurd (q1.symm.trans z) (by decide), xr_lo (xr_ref (xr_cls h5 hc) (fun c j a b => hr c j (Or.inr ⟨a, b⟩))) m1, fun _ => m1, ?_, fun v hv => ?_, fun z => ?_⟩
  · obtain ⟨m, a, b⟩ := h7
    exact ⟨m, a, (hr 93 0 (by omega)).trans b⟩
  · rw [hr 75 v (Or.inl rfl)]; exact h8 v hv
  · rw [e37] at z
    exact absurd (q.symm.trans (h9 z).1) (by decide)
theorem jb_thrown (h : JB σ τ F Wd ar lo st le) (v : Int32) : JB σ (sg τ 59 0 v) F Wd ar lo st le := jb_ref h (fun c j q => by
  unfold Rc at q
  exact sg_o (by omega))
theorem jz_no (h : JB σ τ F Wd ar lo st le) {r v : Int32} : Ok (some (r, sg τ 59 0 v)) (fun z => JZ σ z.2) := ok_ret ⟨F, Wd, ar, lo, st, le, jb_thrown h v⟩
/-- the class's cells as they were, the reference's as after the class's method -/
theorem jx_mid (hj : JB σ σ F Wd ar lo st le) (fr : ∀ c j, 58 < c → σ1 c j = σ c j) : JB σ σ1 F Wd ar lo st le := jb_ref hj (fun c j q => fr c j (by unfold Rc at q; omega))
theorem j_look {x : Option (Int32 × Sg)} (hk : KX σ n) (hj : JB σ σ F Wd ar lo st le) (e1 : ∀ c j, c ≠ 102 → σ1 c j = σ c j) (h : Lk σ1 x) : Ok x (fun z => KX z.2 n ∧ JX z.2) := by
  obtain ⟨⟨r, σ2⟩, e, h2⟩ := h
  have h2 : ∀ c j, ¬ (c = 59 ∧ j = 0) → σ2 c j = σ1 c j := h2
  refine ⟨(r, σ2), e, jx_of hk (jb_ref hj (fun c j q => ?_)) (fun c j q => (h2 c j (by omega)).trans (e1 c j (by omega)))⟩
  unfold Rc at q
  exact (h2 c j (by omega)).trans (e1 c j (by omega))
theorem j_func (hk : KX σ n) (hj : JX σ) (x y : Int32) : Ok (f_X11_func N n σ x y) (fun a => Ok (f_X12_func N n a.2 x y) (fun z => KX z.2 n ∧ JX z.2)) := by
  obtain ⟨F, Wd, ar, lo, st, le, hj⟩ := hj
  obtain ⟨⟨r, σ1⟩, e, k1, fr⟩ := xfunc_ok (N := N) hk x y
  have fr : ∀ c j, 58 < c → σ1 c j = σ c j := fr
  refine ⟨(r, σ1), e, j_fin k1 ?_ (fun r' σ' e' c j q => fr_X12_func (nt_hi (m := 58) (by decide) (by decide) q) e')⟩
  show Ok (f_X12_func N n σ1 x y) _
  have hm := jx_mid hj fr
  have no : σ1 = σ → ∀ r' : Int32, Ok (some (r', sg σ1 59 0 0)) (fun z => JZ σ1 z.2) := fun q r' => by
    have hm2 : JB σ1 σ1 F Wd ar lo st le := jb_cls hm (fun c j _ => by rw [q])
    exact jz_no hm2
  have e0 := e
  obtain ⟨⟨hp, hr, hw⟩, h2, h3, h4, h5, h6, h7, h8, h9⟩ := id hm
  unfold f_X11_func at e
  unfold f_X12_func
  by_cases c1 : x < 0
  · rw [if_pos c1] at e; rw [if_pos c1]; cases e; exact no rfl _
  rw [if_neg c1] at e; rw [if_neg c1]
  by_cases c2 : 6 < x
  · rw [if_pos c2] at e; rw [if_pos c2]; cases e; exact no rfl _
  rw [if_neg c2] at e; rw [if_neg c2]
  by_cases c3 : y < x
  · rw [if_pos c3] at e; rw [if_pos c3]; cases e; exact no rfl _
  rw [if_neg c3] at e; rw [if_neg c3]
  by_cases c4 : 10 < y
  · rw [if_pos c4] at e; rw [if_pos c4]; cases e; exact no rfl _
  rw [if_neg c4] at e; rw [if_neg c4]
  have hF := hp.2.1
  rw [hr.1, h2]
  rw [hp.1] at e
  have l12 : (nI F < 12) = (F < 12) := lt_nl (k := 12) (by omega) (by decide)
  by_cases c5 : σ 1 9 = 0
  · rw [if_pos c5] at e
    by_cases c6 : F < 12
    · rw [if_pos (show nI F < 12 by rw [l12]; exact c6)] at e
      rw [if_neg (show ¬ nI F = 12 from fun q => by
        have := (nI_eq (a := F) (b := 12) (by omega) (by decide)).mp q
        omega), if_pos c5]
      rcases cs_n x with q | ⟨a, ha, rfl⟩
      · exact absurd q c1
      rcases cs_n y with q | ⟨b, hb, rfl⟩
      · exact absurd (Int32.lt_of_lt_of_le q (Int32.not_lt.mp c1)) c3
      rw [lt_ln (k := 6) (by omega) (by decide)] at c2
      rw [lt_nn (by omega) (by omega)] at c3
      rw [lt_ln (k := 10) (by omega) (by decide)] at c4
      have c2 : ¬ 6 < a := c2
      have c4 : ¬ 10 < b := c4
      obtain ⟨⟨r2, σ2⟩, e2, -, hp2⟩ := addFunc_ok (N := N) (n := n) hp c6 (a := a) (b := b) (by omega) (by omega) (by omega)
      rw [e2, bd_s] at e
      cases e
      have hp2 : PI σ1 (F + 1) Wd (fun f => if f = F then a else ar f) (fun f => if f = F then b else lo f) (fun f => if f = F then Wd else st f) (fun f => if f = F then 0 else le f) := hp2
      rw [gb_nI c6 (by decide), gb_nI c6 (by decide), gb_nI c6 (by decide), gb_nI c6 (by decide), ix_nI (k := F) (by omega), hr.2.2.1, ad_nl F 1]
      refine ok_ret ?_
      obtain ⟨τ2, t2⟩ : ∃ q, q = sg (sg (sg (sg (sg (sg σ1 59 0 0) 60 F (nI a)) 61 F (nI b)) 62 F (nI Wd)) 63 F 0) 59 1 (nI (F + OfNat.ofNat 1)) := ⟨_, rfl⟩
      show JZ σ1 (sg (sg (sg (sg (sg (sg σ1 59 0 0) 60 F (nI a)) 61 F (nI b)) 62 F (nI Wd)) 63 F 0) 59 1 (nI (F + OfNat.ofNat 1)))
      rw [← t2]
      have o : ∀ c j, c ≠ 59 → c ≠ 60 → c ≠ 61 → c ≠ 62 → c ≠ 63 → τ2 c j = σ1 c j := fun c j q1 q2 q3 q4 q5 => by
        rw [t2, sg_c q1, sg_c q5, sg_c q4, sg_c q3, sg_c q2, sg_c q1]
      have o59 : ∀ j, j ≠ 0 → j ≠ 1 → τ2 59 j = σ1 59 j := fun j q1 q2 => by
        rw [t2, sg_ne q2, sg_c (by decide), sg_c (by decide), sg_c (by decide), sg_c (by decide), sg_ne q1]
      have c2' : ∀ c j, c ≠ 2 → c ≠ 3 → c ≠ 4 → c ≠ 5 → ¬ (c = 1 ∧ j = 7) → σ1 c j = σ c j := fun c j q1 q2 q3 q4 q5 => fr_X11_func (nt_mk (by simp <;> omega) (by simp <;> omega)) e0
      have s60 : ∀ f, τ2 60 f = if f = F then nI a else σ1 60 f := fun f => by
        rw [t2, sg_c (by decide), sg_c (by decide), sg_c (by decide), sg_c (by decide), sg_if, sg_c (by decide)]
      have s61 : ∀ f, τ2 61 f = if f = F then nI b else σ1 61 f := fun f => by
        rw [t2, sg_c (by decide), sg_c (by decide), sg_c (by decide), sg_if, sg_c (by decide), sg_c (by decide)]
      have s62 : ∀ f, τ2 62 f = if f = F then nI Wd else σ1 62 f := fun f => by
        rw [t2, sg_c (by decide), sg_c (by decide), sg_if, sg_c (by decide), sg_c (by decide), sg_c (by decide)]
      have s63 : ∀ f, τ2 63 f = if f = F then nI 0 else σ1 63 f := fun f => by
        rw [t2, sg_c (by decide), sg_if, sg_c (by decide), sg_c (by decide), sg_c (by decide), sg_c (by decide)]
        rfl
      have key : ∀ (c : Nat) (k : Nat) (u : Nat → Nat), (∀ f, τ2 c f = if f = F then nI k else σ1 c f) → (∀ f, f < F → σ1 c f = nI (u f)) → ∀ f, f < F + 1 → τ2 c f = nI (if f = F then k else u f) := by
        intro c k u q1 q2 f hf
        rw [q1 f]
        by_cases z : f = F
        · rw [if_pos z, if_pos z]
        · rw [if_neg z, if_neg z]; exact q2 f (by omega)
      obtain ⟨p1, p2, p3, p4, p5, p6, p7, p8, p9⟩ := hr
      have q19 : σ1 1 9 = 0 := (c2' 1 9 (by decide) (by decide) (by decide) (by decide) (by decide)).trans c5
      refine ⟨F + 1, Wd, _, _, _, _, jb_unch hm c5 q19 (o59 10 (by decide) (by decide)) (o59 37 (by decide) (by decide)) (fun c j q1 q2 => c2' c j (by omega) (by omega) (by omega) (by omega) (by omega)) (fun c j q => o c j (by omega) (by omega) (by omega) (by omega) (by omega)) ⟨hp2, ⟨by rw [t2]; exact sg_at _ _ _ _, by omega, (o59 6 (by decide) (by decide)).trans p3, p4, key 60 a ar s60 p5, key 61 b lo s61 p6, key 62 Wd st s62 p7, key 63 0 le s63 p8, hp2.2.2.2.2.2.2.2.2⟩, fun j hj => ⟨?_, ?_⟩⟩⟩
      · rw [o 64 j (by decide) (by decide) (by decide) (by decide) (by decide), c2' 6 j (by decide) (by decide) (by decide) (by decide) (by omega)]; exact (hw j hj).1
      · rw [o 65 j (by decide) (by decide) (by decide) (by decide) (by decide), c2' 7 j (by decide) (by decide) (by decide) (by decide) (by omega)]; exact (hw j hj).2
    · rw [if_neg (show ¬ nI F < 12 by rw [l12]; exact c6)] at e
      rw [if_pos (show nI F = 12 by rw [show F = 12 by omega]; rfl)]
      cases e; exact no rfl _
  · rw [if_neg c5] at e
    cases e
    rw [if_neg c5]
    exact ok_if (fun _ => no rfl _) (fun _ => no rfl _)
theorem j_word (hk : KX σ n) (hj : JX σ) (x y : Int32) : Ok (f_X11_word N n σ x y) (fun a => Ok (f_X12_word N n a.2 x y) (fun z => KX z.2 n ∧ JX z.2)) := by
  obtain ⟨F, Wd, ar, lo, st, le, hj⟩ := hj
  obtain ⟨⟨r, σ1⟩, e, k1, fr⟩ := xword_ok (N := N) hk x y
  have fr : ∀ c j, 58 < c → σ1 c j = σ c j := fr
  refine ⟨(r, σ1), e, j_fin k1 ?_ (fun r' σ' e' c j q => fr_X12_word (nt_hi (m := 58) (by decide) (by decide) q) e')⟩
  show Ok (f_X12_word N n σ1 x y) _
  have hm := jx_mid hj fr
  have no : σ1 = σ → ∀ r' : Int32, Ok (some (r', sg σ1 59 0 0)) (fun z => JZ σ1 z.2) := fun q r' => by
    have hm2 : JB σ1 σ1 F Wd ar lo st le := jb_cls hm (fun c j _ => by rw [q])
    exact jz_no hm2
  have e0 := e
  obtain ⟨⟨hp, hr, hw⟩, h2, h3, h4, h5, h6, h7, h8, h9⟩ := id hm
  unfold f_X11_word at e
  unfold f_X12_word
  have hF := hp.2.1
  have hWd := hp.2.2.2.1
  rw [hr.1, h2, hr.2.2.1]
  rw [hp.1, hp.2.2.1] at e
  have l300 : (nI Wd < 300) = (Wd < 300) := lt_nl (k := 300) (by omega) (by decide)
  by_cases c1 : nI F = 0
  · rw [if_pos c1] at e; rw [if_pos c1]; cases e; exact no rfl _
  rw [if_neg c1] at e; rw [if_neg c1]
  have hF0 : 0 < F := Nat.pos_of_ne_zero (fun q => c1 (by rw [q]; rfl))
  by_cases c5 : σ 1 9 = 0
  · rw [if_pos c5] at e
    by_cases c6 : Wd < 300
    · rw [if_pos (show nI Wd < 300 by rw [l300]; exact c6)] at e
      rw [if_neg (show ¬ nI Wd = 300 from fun q => by
        have := (nI_eq (a := Wd) (b := 300) (by omega) (by decide)).mp q
        omega), if_pos c5]
      obtain ⟨⟨r2, σ2⟩, e2, -, hp2⟩ := addWord_ok (N := N) (n := n) hp hF0 c6 x y
      have w6 : ∀ j, σ2 6 j = (if j = Wd then x else σ 6 j) ∧ σ2 7 j = (if j = Wd then y else σ 7 j) := fun j => by
        unfold f_X6_addWord at e2
        rw [hp.1, hp.2.2.1, sb_nl (k := 1) (show 1 ≤ F by omega), gb_nI c6 (by decide), gb_nI c6 (by decide), gb_nI (show F - OfNat.ofNat 1 < 12 by show F - 1 < 12; omega) (by decide), gb_nI (show F - OfNat.ofNat 1 < 12 by show F - 1 < 12; omega) (by decide), gb_nI (show F - OfNat.ofNat 1 < 12 by show F - 1 < 12; omega) (by decide), ix_nI (k := Wd) (by omega)] at e2
        cases e2
        refine ⟨?_, ?_⟩
        · rw [sg_c (by decide), sg_c (by decide), sg_c (by decide), sg_if]
        · rw [sg_c (by decide), sg_c (by decide), sg_if, sg_c (by decide)]
      rw [e2, bd_s] at e
      cases e
      have hp2 : PI σ1 F (Wd + 1) ar lo st (fun f => if f = F - 1 then le f + 1 else le f) := hp2
      obtain ⟨p1, p2, p3, p4, p5, p6, p7, p8, p9⟩ := hr
      have l1 := p8 (F - 1) (by omega)
      rw [sb_nl (k := 1) (show 1 ≤ F by omega)]
      have oF : F - OfNat.ofNat 1 = F - 1 := rfl
      rw [oF, gb_nI c6 (by decide), gb_nI c6 (by decide), gb_nI (show F - 1 < 12 by omega) (by decide), gb_nI (show F - 1 < 12 by omega) (by decide), gb_nI (show F - 1 < 12 by omega) (by decide), ix_nI (k := Wd) (by omega), ix_nI (k := F - 1) (by omega), l1, ad_nl Wd 1, ad_nl (le (F - 1)) 1]
      refine ok_ret ?_
      obtain ⟨τ2, t2⟩ : ∃ q, q = sg (sg (sg (sg (sg σ1 59 0 0) 64 Wd x) 65 Wd y) 59 6 (nI (Wd + OfNat.ofNat 1))) 63 (F - 1) (nI (le (F - 1) + OfNat.ofNat 1)) := ⟨_, rfl⟩
      show JZ σ1 (sg (sg (sg (sg (sg σ1 59 0 0) 64 Wd x) 65 Wd y) 59 6 (nI (Wd + OfNat.ofNat 1))) 63 (F - 1) (nI (le (F - 1) + OfNat.ofNat 1)))
      rw [← t2]
      have o : ∀ c j, c ≠ 59 → c ≠ 64 → c ≠ 65 → c ≠ 63 → τ2 c j = σ1 c j := fun c j q1 q2 q3 q4 => by
        rw [t2, sg_c q4, sg_c q1, sg_c q3, sg_c q2, sg_c q1]
      have o59 : ∀ j, j ≠ 0 → j ≠ 6 → τ2 59 j = σ1 59 j := fun j q1 q2 => by
        rw [t2, sg_c (by decide), sg_ne q2, sg_c (by decide), sg_c (by decide), sg_ne q1]
      have c2' : ∀ c j, c ≠ 5 → c ≠ 6 → c ≠ 7 → ¬ (c = 1 ∧ j = 8) → σ1 c j = σ c j := fun c j q1 q2 q3 q4 => fr_X11_word (nt_mk (by simp <;> omega) (by simp <;> omega)) e0
      have s63 : ∀ f, τ2 63 f = if f = F - 1 then nI (le (F - 1) + 1) else σ1 63 f := fun f => by
        rw [t2, sg_if, sg_c (by decide), sg_c (by decide), sg_c (by decide), sg_c (by decide)]
      have s64 : ∀ f, τ2 64 f = if f = Wd then x else σ1 64 f := fun f => by
        rw [t2, sg_c (by decide), sg_c (by decide), sg_c (by decide), sg_if, sg_c (by decide)]
      have s65 : ∀ f, τ2 65 f = if f = Wd then y else σ1 65 f := fun f => by
        rw [t2, sg_c (by decide), sg_c (by decide), sg_if, sg_c (by decide), sg_c (by decide)]
      have q19 : σ1 1 9 = 0 := (c2' 1 9 (by decide) (by decide) (by decide) (by decide)).trans c5
      refine ⟨F, Wd + 1, _, _, _, _, jb_unch hm c5 q19 (o59 10 (by decide) (by decide)) (o59 37 (by decide) (by decide)) (fun c j q1 q2 => c2' c j (by omega) (by omega) (by omega) (by omega)) (fun c j q => o c j (by omega) (by omega) (by omega) (by omega)) ⟨hp2, ⟨(o59 1 (by decide) (by decide)).trans p1, p2, by rw [t2, sg_c (by decide), sg_at], by omega, fun f hf => (o 60 f (by decide) (by decide) (by decide) (by decide)).trans (p5 f hf), fun f hf => (o 61 f (by decide) (by decide) (by decide) (by decide)).trans (p6 f hf), fun f hf => (o 62 f (by decide) (by decide) (by decide) (by decide)).trans (p7 f hf), fun f hf => ?_, hp2.2.2.2.2.2.2.2.2⟩, fun j hj => ⟨?_, ?_⟩⟩⟩
      · rw [s63]
        show _ = nI (if f = F - 1 then le f + 1 else le f)
        by_cases z : f = F - 1
        · rw [if_pos z, if_pos z, z]
        · rw [if_neg z, if_neg z]; exact p8 f hf
      · rw [s64, (w6 j).1]
        by_cases z : j = Wd
        · rw [if_pos z, if_pos z]
        · rw [if_neg z, if_neg z]; exact (hw j (by omega)).1
      · rw [s65, (w6 j).2]
        by_cases z : j = Wd
        · rw [if_pos z, if_pos z]
        · rw [if_neg z, if_neg z]; exact (hw j (by omega)).2
    · rw [if_neg (show ¬ nI Wd < 300 by rw [l300]; exact c6)] at e
      rw [if_pos (show nI Wd = 300 by rw [show Wd = 300 by omega]; rfl)]
      cases e; exact no rfl _
  · rw [if_neg c5] at e
    cases e
    rw [if_neg c5]
    exact ok_if (fun _ => no rfl _) (fun _ => no rfl _)
end JM
