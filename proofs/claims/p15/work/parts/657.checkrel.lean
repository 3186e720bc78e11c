theorem scan_ref {N n : Nat} {τ : Sg} {f S Ln : Nat} (hf : f < 12) (h63 : τ 63 f = nI Ln) (hS : S + Ln ≤ 300) {K : Sg → Int32 → Option (Int32 × Sg)} :
    ∀ (m u k : Nat), u + m ≤ Ln → (∀ t, u ≤ t → t < u + m → τ 66 (S + t) < 0 ∨ ¬ τ 67 (S + t) = 0) → lf_X12_checks_52 N n (nI f) (nI S) K (k + m) τ (nI u) = lf_X12_checks_52 N n (nI f) (nI S) K k τ (nI (u + m)) := by
  intro m
  induction m with
  | zero => intro u k _ _; rfl
  | succ m ih =>
    intro u k h1 h2
    show lb_X12_checks_52 N n (nI f) (nI S) K (lf_X12_checks_52 N n (nI f) (nI S) K (k + m)) τ (nI u) = _
    unfold lb_X12_checks_52
    rw [gb_nI hf (by decide), ix_nI (k := f) (by omega), h63, if_neg (show ¬ nI Ln ≤ nI u by rw [le_nn (by omega) (by omega)]; omega), ad_nn, gb_nI (show S + u < 300 by omega) (by decide), gb_nI (show S + u < 300 by omega) (by decide), ix_nI (k := S + u) (by omega), ad_nl u 1]
    have e : lf_X12_checks_52 N n (nI f) (nI S) K (k + m) τ (nI (u + OfNat.ofNat 1)) = lf_X12_checks_52 N n (nI f) (nI S) K k τ (nI (u + (m + 1))) := by
      refine (ih (u + 1) k (by omega) (fun t a b => h2 t (by omega) (by omega))).trans ?_
      rw [show u + 1 + m = u + (m + 1) by omega]
    rcases h2 u (Nat.le_refl _) (by omega) with q | q
    · rw [if_pos q]; exact e
    · by_cases z : τ 66 (S + u) < 0
      · rw [if_pos z]; exact e
      · rw [if_neg z, if_neg q]; exact e
theorem end_ref {N n : Nat} {τ : Sg} {f S Ln kr : Nat} (hf : f < 12) (h63 : τ 63 f = nI Ln) (hS : S + Ln ≤ 300) {K : Sg → Int32 → Option (Int32 × Sg)} (hk : Ln < kr) (h : ∀ t, t < Ln → τ 66 (S + t) < 0 ∨ ¬ τ 67 (S + t) = 0) :
    lf_X12_checks_52 N n (nI f) (nI S) K kr τ (nI 0) = K τ (nI Ln) := by
  obtain ⟨k, rfl⟩ : ∃ k, kr = (k + 1) + Ln := ⟨kr - Ln - 1, by omega⟩
  rw [scan_ref hf h63 hS Ln 0 (k + 1) (by omega) (fun t _ b => h t (by omega)), Nat.zero_add]
  show lb_X12_checks_52 N n (nI f) (nI S) K (lf_X12_checks_52 N n (nI f) (nI S) K k) τ (nI Ln) = _
  unfold lb_X12_checks_52
  rw [gb_nI hf (by decide), ix_nI (k := f) (by omega), h63, if_pos (show nI Ln ≤ nI Ln by rw [le_nn (by omega) (by omega)]; omega)]
theorem at_ref {N n : Nat} {τ : Sg} {f S Ln kr w d : Nat} (hf : f < 12) (h63 : τ 63 f = nI Ln) (hS : S + Ln ≤ 300) {K : Sg → Int32 → Option (Int32 × Sg)} (hw : w < Ln) (hk : w < kr) (h : ∀ t, t < w → τ 66 (S + t) < 0 ∨ ¬ τ 67 (S + t) = 0) (hd : d ≤ 12) (h66 : τ 66 (S + w) = nI d) (h67 : τ 67 (S + w) = 0) :
    lf_X12_checks_52 N n (nI f) (nI S) K kr τ (nI 0) = bd (f_X12_looksAt N n (sg τ 67 (S + w) 1) (nI f) (nI w)) (fun r16 σ17 => if r16 ≤ 0 then (lf_X12_checks_52 N n (nI f) (nI S) K (kr - w - 1) σ17 (nI 0)) else (some ((r16 + (8 * nI f)) + (128 * nI w), σ17))) := by
  obtain ⟨k, rfl⟩ : ∃ k, kr = (k + 1) + w := ⟨kr - w - 1, by omega⟩
  rw [scan_ref hf h63 hS w 0 (k + 1) (by omega) (fun t _ b => h t (by omega)), Nat.zero_add, show k + 1 + w - w - 1 = k by omega]
  show lb_X12_checks_52 N n (nI f) (nI S) K (lf_X12_checks_52 N n (nI f) (nI S) K k) τ (nI w) = _
  unfold lb_X12_checks_52
  rw [gb_nI hf (by decide), ix_nI (k := f) (by omega), h63, if_neg (show ¬ nI Ln ≤ nI w by rw [le_nn (by omega) (by omega)]; omega), ad_nn, gb_nI (show S + w < 300 by omega) (by decide), gb_nI (show S + w < 300 by omega) (by decide), gb_nI (show S + w < 300 by omega) (by decide), ix_nI (k := S + w) (by omega), h66, if_neg (nI_pos (by omega)), if_pos h67]
  rfl
/-- only CHECK's rows of the FUNC at S have changed in the reference -/
def F7 (τ τ' : Sg) (S Ln : Nat) : Prop := (∀ c j, c ≠ 66 → c ≠ 67 → τ' c j = τ c j) ∧ ∀ j, (j < S ∨ S + Ln ≤ j) → τ' 66 j = τ 66 j
theorem f7_trans {τ τ1 τ2 : Sg} {S Ln : Nat} (h : F7 τ τ1 S Ln) (k : F7 τ1 τ2 S Ln) : F7 τ τ2 S Ln := ⟨fun c j q1 q2 => (k.1 c j q1 q2).trans (h.1 c j q1 q2), fun j q => (k.2 j q).trans (h.2 j q)⟩
theorem main_rel {N n : Nat} (hN : 1000 ≤ N) {τ0 : Sg} {F Wd : Nat} {ar lo st le : Nat → Nat} {f : Nat} (hf : f < F) (hl0 : 0 < le f) :
    ∀ (k v A : Nat) (σ τ : Sg) (kr : Nat), v + A = le f → le f < v + k → (A + 1) * (le f + 1) < kr → MI σ F Wd ar lo st le f v → Rl σ τ F Wd ar lo st le → DR σ τ (st f) (le f) → (∀ w, w < le f → τ 67 (st f + w) = σ 10 (st f + w)) → F7 τ0 τ (st f) (le f) →
      Ok2 (lf_X0_faultOfFunc_76 N n (nI f) (nI (st f)) (nI (le f)) (fun σ19 _ => some (0, σ19)) k σ (nI v)) (lf_X12_checks_52 N n (nI f) (nI (st f)) (fun σ20 _ => some (0, σ20)) kr τ (nI 0)) (fun x y => x.1 = y.1 ∧ (∃ m, m < 1000000 ∧ x.1 = nI m) ∧ DR x.2 y.2 (st f) (le f) ∧ F7 τ0 y.2 (st f) (le f)) := by
  intro k
  induction k with
  | zero => intro v A σ τ kr h1 h2; omega
  | succ k ih =>
    intro v A σ τ kr h1 h2 hkr hM hRl hDR h67 hF7
    have hM0 := hM
    obtain ⟨hp, hD, ⟨a, ha, ea, hJ2⟩, hpas, hJ1, hD0, hcn⟩ := hM
    have hp' := hp
    obtain ⟨g1, g2, g3, g4, g5, g6, g7, g8, g9, g10, g11⟩ := hp'
    have q9 := g9 f hf
    have r63 : τ 63 f = nI (le f) := hRl.2.1.2.2.2.2.2.2.2.1 f hf
    have hkr2 : le f < kr := by
      have : le f + 1 ≤ (A + 1) * (le f + 1) := Nat.le_mul_of_pos_left _ (by omega)
      omega
    -- nothing waits: both are done
    have done : (∀ t, t < le f → σ 8 (st f + t) = (-1) ∨ ¬ σ 10 (st f + t) = 0) → Ok2 (some ((0 : Int32), σ)) (lf_X12_checks_52 N n (nI f) (nI (st f)) (fun σ20 _ => some ((0 : Int32), σ20)) kr τ (nI 0)) (fun x y => x.1 = y.1 ∧ (∃ m, m < 1000000 ∧ x.1 = nI m) ∧ DR x.2 y.2 (st f) (le f) ∧ F7 τ0 y.2 (st f) (le f)) := by
      intro hh
      rw [end_ref (show f < 12 by omega) r63 (by omega) hkr2 (fun t ht => ?_)]
      · exact o2_ret ⟨rfl, ⟨0, by omega, rfl⟩, hDR, hF7⟩
      · rcases hh t ht with q | q
        · exact Or.inl (by rw [hDR t ht, q]; decide)
        · exact Or.inr (by rw [h67 t ht]; exact q)
    show Ok2 (lb_X0_faultOfFunc_76 N n (nI f) (nI (st f)) (nI (le f)) _ (lf_X0_faultOfFunc_76 N n (nI f) (nI (st f)) (nI (le f)) _ k) σ (nI v)) _ _
    unfold lb_X0_faultOfFunc_76
    by_cases c : nI (le f) ≤ nI v
    · rw [if_pos c]
      rw [le_nn (by omega) (by omega)] at c
      refine done (fun t ht => Or.inr ?_)
      have : decide (σ 10 (st f + t) = 1) = true := cn_full (p := fun w => decide (σ 10 (st f + w) = 1)) (k := le f) (by omega) t ht
      rw [of_decide_eq_true this]; decide
    · rw [if_neg c]
      rw [le_nn (by omega) (by omega)] at c
      unfold f_X0_leastWaiting
      rw [ea]
      obtain ⟨⟨r, σ1⟩, el, hr1, hr2⟩ := least_ok (N := N) (n := n) (σ := σ) (S := st f) (Ln := le f) (by omega) N a ha (by omega)
      have hr1 : σ1 = σ := hr1
      subst hr1
      rw [el, bd_s]
      rcases hr2 with ⟨p1, p2⟩ | ⟨w, p1, p2, p3, p4, p5, p6⟩
      · have p1 : r = (-1) := p1
        rw [if_pos p1]
        refine done (fun t ht => ?_)
        by_cases q2 : t < a
        · by_cases q : σ1 8 (st f + t) = (-1)
          · exact Or.inl q
          · exact Or.inr (by rw [hJ2 t ht q2 q]; decide)
        · exact p2 t (by omega) ht
      · have p3 : r = nI w := p3
        subst p3
        rw [if_neg (n1_ne (by omega)), ad_nn, ix_nI (k := st f + w) (by omega), gb_nI (by omega) (by omega), ad_nl w 1]
        obtain ⟨d, hd, hdw⟩ := (hD w p2).resolve_left p4
        obtain ⟨σ2, e2⟩ : ∃ z, z = sg (sg σ1 10 (st f + w) 1) 9 2 (nI (w + 1)) := ⟨_, rfl⟩
        have o8 : ∀ j, σ2 8 j = σ1 8 j := fun j => by rw [e2, sg_c (by decide), sg_c (by decide)]
        have oo : ∀ c j, c ≠ 10 → ¬ (c = 9 ∧ j = 2) → σ2 c j = σ1 c j := by
          intro c j q1 q2
          rw [e2, sg_o (by omega), sg_c q1]
        have o10 : ∀ j, σ2 10 j = if j = st f + w then 1 else σ1 10 j := fun j => by rw [e2, sg_c (by decide), sg_if]
        have o9 : σ2 9 2 = nI (w + 1) := by rw [e2]; exact sg_at _ _ _ _
        have hp2 : PI σ2 F Wd ar lo st le := ⟨(oo 1 7 (by omega) (by omega)).trans g1, g2, (oo 1 8 (by omega) (by omega)).trans g3, g4, fun f hf => (oo 2 f (by omega) (by omega)).trans (g5 f hf), fun f hf => (oo 3 f (by omega) (by omega)).trans (g6 f hf), fun f hf => (oo 4 f (by omega) (by omega)).trans (g7 f hf), fun f hf => (oo 5 f (by omega) (by omega)).trans (g8 f hf), g9, g10, g11⟩
        have hD2 : DI (st f) (le f) σ2 := fun u hu => by rw [o8]; exact hD u hu
        rw [← e2]
        -- the reference comes to the same WORD
        have low : ∀ t, t < w → τ 66 (st f + t) < 0 ∨ ¬ τ 67 (st f + t) = 0 := fun t ht => by
          rw [hDR t (by omega), h67 t (by omega)]
          by_cases q : σ1 8 (st f + t) = (-1)
          · exact Or.inl (by rw [q]; decide)
          · refine Or.inr ?_
            by_cases q2 : t < a
            · rw [hJ2 t (by omega) q2 q]; decide
            · exact (p6 t (by omega) ht).resolve_left q
        rw [at_ref (show f < 12 by omega) r63 (by omega) p2 (by omega) low hd ((hDR w p2).trans hdw) ((h67 w p2).trans p5)]
        obtain ⟨τ2, e3⟩ : ∃ z, z = sg τ 67 (st f + w) 1 := ⟨_, rfl⟩
        rw [← e3]
        have t2 : ∀ c j, c ≠ 67 → τ2 c j = τ c j := fun c j q => by rw [e3]; exact sg_c q
        have hRl2 : Rl σ2 τ2 F Wd ar lo st le := ⟨hp2, pr_same hRl.2.1 (fun j _ => t2 59 j (by decide)) (fun c j _ q => t2 c j (by omega)), fun j hj => by
          rw [t2 64 j (by decide), t2 65 j (by decide), oo 6 j (by decide) (by omega), oo 7 j (by decide) (by omega)]
          exact hRl.2.2 j hj⟩
        have hDR2 : DR σ2 τ2 (st f) (le f) := fun u hu => by rw [t2 66 _ (by decide), o8]; exact hDR u hu
        obtain ⟨⟨r3, σ3⟩, e5, hG, hW, m, hm5, em⟩ := faultOfWord_ok (N := N) (n := n) (a := w + 1) hp2 hf p2 hD2 (by omega) o9 hd ((o8 _).trans hdw)
        have em : r3 = nI m := em
        have hG : Gr (st f) (le f) σ2 σ3 := hG
        subst em
        obtain ⟨⟨r4, σ4⟩, ⟨r5, τ5⟩, e6, e7, x1, x2, x3⟩ := word_rel (N := N) (n := n) hRl2 hf p2 hD2 hDR2 (a := w + 1) (by omega) o9 hd ((o8 _).trans hdw)
        rw [e5] at e6
        cases e6
        have x1 : nI m = r5 := x1
        subst x1
        have x2 : DR σ3 τ5 (st f) (le f) := x2
        have x3 : F6 τ2 τ5 (st f) (le f) := x3
        rw [e5, e7, bd_s, bd_s]
        have hF75 : F7 τ0 τ5 (st f) (le f) := f7_trans hF7 ⟨fun c j q1 q2 => (x3.1 c j q1).trans (t2 c j q2), fun j q => (x3.2 j q).trans (t2 66 j (by decide))⟩
        by_cases z : nI m = 0
        · rw [if_pos z, if_pos (show nI m ≤ 0 by rw [z]; decide), ad_nl v 1]
          have hW : WW σ3 F ar lo st le f w := hW z
          obtain ⟨a3, l3, e3', w3⟩ := hG.2.2 (w + 1) (by omega) o9
          have c10 : ∀ j, σ3 10 j = if j = st f + w then 1 else σ1 10 j := fun j => (hG.1 10 j (by omega) (by omega)).trans (o10 j)
          obtain ⟨A', rfl⟩ : ∃ A', A = A' + 1 := ⟨A - 1, by omega⟩
          have hmul : (A' + 1 + 1) * (le f + 1) = (A' + 1) * (le f + 1) + (le f + 1) := Nat.succ_mul _ _
          refine ih (v + 1) A' σ3 τ5 (kr - w - 1) (by omega) (by omega) (by omega) ⟨gr_PI hG hp2, gr_DI (a := w + 1) (by omega) o9 hG hD2, ⟨a3, by omega, e3', fun u hu hua hne => ?_⟩, fun u hu => ?_, fun u hu h1u => ?_, ?_, ?_⟩ (rl_step hRl2 hG x3.1) x2 (fun u hu => ?_) hF75
          · rw [c10]
            by_cases q : u = w
            · rw [q, if_pos rfl]
            · rw [if_neg (by omega)]
              have keep : ¬ σ1 8 (st f + u) = (-1) := by
                rcases w3 u hu with x | ⟨-, -, x⟩
                · exact fun y => hne (x.trans ((o8 _).trans y))
                · omega
              by_cases q2 : u < a
              · exact hJ2 u hu q2 keep
              · rcases p6 u (by omega) (by omega) with x | x
                · exact absurd x keep
                · exact (hpas u hu).resolve_left x
          · rw [c10]
            by_cases q : st f + u = st f + w
            · rw [if_pos q]; exact Or.inr rfl
            · rw [if_neg q]; exact hpas u hu
          · by_cases q : u = w
            · rw [q]; exact hW
            · rw [c10, if_neg (by omega)] at h1u
              exact gr_WW rfl rfl hu (a := w + 1) (by omega) o9 hG (WW_same (fun j => oo 6 j (by omega) (by omega)) (fun j => oo 7 j (by omega) (by omega)) o8 (hJ1 u hu h1u))
          · exact gr_keep (a := w + 1) (w := 0) (by omega) o9 hG hl0 (by omega) ((o8 _).trans hD0)
          · have hc : cn (fun u => decide (σ3 10 (st f + u) = 1)) (le f) = cn (fun u => decide (σ1 10 (st f + u) = 1)) (le f) + 1 := by
              refine cn_set p2 ?_ ?_ (fun u hu hn => ?_)
              · show decide (σ1 10 (st f + w) = 1) = false
                rw [p5]; decide
              · show decide (σ3 10 (st f + w) = 1) = true
                rw [c10, if_pos rfl]; decide
              · show decide (σ3 10 (st f + u) = 1) = decide (σ1 10 (st f + u) = 1)
                rw [c10, if_neg (by omega)]
            omega
          · rw [c10, x3.1 67 _ (by decide), e3, sg_if]
            by_cases q : st f + u = st f + w
            · rw [if_pos q, if_pos q]
            · rw [if_neg q, if_neg q]; exact h67 u hu
        · have hm0 : 0 < m := Nat.pos_of_ne_zero (fun x => z (by rw [x]; rfl))
          have hle : ¬ nI m ≤ 0 := by
            rw [show (0 : Int32) = nI 0 from rfl, le_nn (by omega) (by decide)]; omega
          rw [if_neg z, if_neg hle]
          refine o2_ret ⟨rfl, ⟨m + 8 * f + 128 * w, by omega, ?_⟩, x2, hF75⟩
          show (nI m + 8 * nI f) + 128 * nI w = _
          rw [ml_ln f 8, ml_ln w 128, ad_nn, ad_nn]
theorem wipe_ref {N n : Nat} {f S Ln : Nat} (hf : f < 12) {K : Sg → Int32 → Option (Int32 × Sg)} (hS : S + Ln ≤ 300) {τ0 : Sg} (h63 : τ0 63 f = nI Ln) :
    ∀ (k v : Nat) (τ : Sg), v ≤ Ln → Ln < v + k → F7 τ0 τ S Ln → (∀ w, w < v → τ 66 (S + w) = (-1) ∧ τ 67 (S + w) = 0) → ∃ τ', F7 τ0 τ' S Ln ∧ (∀ w, w < Ln → τ' 66 (S + w) = (-1) ∧ τ' 67 (S + w) = 0) ∧ lf_X12_checks_9 N n (nI f) (nI S) K k τ (nI v) = K τ' (nI Ln) := by
  intro k
  induction k with
  | zero => intro v τ h1 h2; omega
  | succ k ih =>
    intro v τ h1 h2 h7 hv
    show ∃ τ', F7 τ0 τ' S Ln ∧ (∀ w, w < Ln → τ' 66 (S + w) = (-1) ∧ τ' 67 (S + w) = 0) ∧ lb_X12_checks_9 N n (nI f) (nI S) K (lf_X12_checks_9 N n (nI f) (nI S) K k) τ (nI v) = K τ' (nI Ln)
    unfold lb_X12_checks_9
    rw [gb_nI hf (by decide), ix_nI (k := f) (by omega), (h7.1 63 f (by decide) (by decide)).trans h63]
    by_cases c : nI Ln ≤ nI v
    · rw [if_pos c]
      rw [le_nn (by omega) (by omega)] at c
      obtain rfl : v = Ln := by omega
      exact ⟨τ, h7, hv, rfl⟩
    · rw [if_neg c]
      rw [le_nn (by omega) (by omega)] at c
      rw [ad_nn, ix_nI (k := S + v) (by omega), gb_nI (by omega) (by omega), gb_nI (by omega) (by omega), ad_nl v 1]
      refine ih (v + 1) _ (by omega) (by omega) ⟨fun c j q1 q2 => (sg_c q2).trans ((sg_c q1).trans (h7.1 c j q1 q2)), fun j q => (sg_c (by decide)).trans ((sg_ne (by omega)).trans (h7.2 j q))⟩ (fun w hw => ?_)
      rw [sg_c (show (66 : Nat) ≠ 67 by decide), sg_if, sg_if, sg_c (show (67 : Nat) ≠ 66 by decide)]
      by_cases e : S + w = S + v
      · rw [if_pos e, if_pos e]; exact ⟨rfl, rfl⟩
      · rw [if_neg e, if_neg e]; exact hv w (by omega)
theorem func_rel {N n : Nat} (hN : 200000 ≤ N) {σ τ : Sg} {F Wd : Nat} {ar lo st le : Nat → Nat} (h : Rl σ τ F Wd ar lo st le) {f : Nat} (hf : f < F) (hl0 : 0 < le f) :
    Ok2 (f_X0_faultOfFunc N n σ (nI f)) (f_X12_checks N n τ (nI f)) (fun x y => x.1 = y.1 ∧ (∃ m, m < 1000000 ∧ x.1 = nI m) ∧ DR x.2 y.2 (st f) (le f) ∧ F7 τ y.2 (st f) (le f)) := by
  have hp := h.1
  have hp' := hp
  obtain ⟨g1, g2, g3, g4, g5, g6, g7, g8, g9, g10, g11⟩ := hp'
  have q9 := g9 f hf
  have r62 : τ 62 f = nI (st f) := h.2.1.2.2.2.2.2.2.1 f hf
  have r63 : τ 63 f = nI (le f) := h.2.1.2.2.2.2.2.2.2.1 f hf
  unfold f_X0_faultOfFunc f_X12_checks
  rw [ix_nI (k := f) (by omega), g7 f hf, g8 f hf, gb_nI (show f < 12 by omega) (by decide), gb_nI (show f < 12 by omega) (by decide), gb_nI (show f < 12 by omega) (by decide), r62]
  obtain ⟨σ1, hW, e⟩ := wipe_ok (N := N) (n := n) (f := nI f) (K := fun σ6 _ => gb (nI (st f)) 300 (lf_X0_faultOfFunc_76 N n (nI f) (nI (st f)) (nI (le f)) (fun σ19 _ => some (0, σ19)) N (sg (sg σ6 8 (ix (nI (st f))) 0) 9 2 0) 0)) (S := st f) (Ln := le f) (σ0 := σ) (by omega) N 0 σ (by omega) (by omega) ⟨fun _ _ _ _ => rfl, fun _ _ => ⟨rfl, rfl⟩, fun w hw => by omega⟩
  obtain ⟨τ1, h7, hw7, e'⟩ := wipe_ref (N := N) (n := n) (f := f) (S := st f) (Ln := le f) (by omega) (K := fun σ6 _ => gb (nI (st f)) 300 (lf_X12_checks_52 N n (nI f) (nI (st f)) (fun σ20 _ => some (0, σ20)) N (sg σ6 66 (ix (nI (st f))) 0) 0)) (by omega) r63 N 0 τ (by omega) (by omega) ⟨fun _ _ _ _ => rfl, fun _ _ => rfl⟩ (fun w hw => by omega)
  rw [show (0 : Int32) = nI 0 from rfl] at e e' ⊢
  rw [e, e']
  obtain ⟨w1, w2, w3⟩ := hW
  rw [gb_nI (show st f < 300 by omega) (by omega), gb_nI (show st f < 300 by omega) (by omega), ix_nI (k := st f) (by omega)]
  obtain ⟨σ2, e2⟩ : ∃ z, z = sg (sg σ1 8 (st f) (nI 0)) 9 2 (nI 0) := ⟨_, rfl⟩
  obtain ⟨τ2, e3⟩ : ∃ z, z = sg τ1 66 (st f) (nI 0) := ⟨_, rfl⟩
  rw [← e2, ← e3]
  have o8 : ∀ j, σ2 8 j = if j = st f then nI 0 else σ1 8 j := fun j => by rw [e2, sg_c (by decide), sg_if]
  have oo : ∀ c j, c ≠ 8 → ¬ (c = 9 ∧ j = 2) → σ2 c j = σ1 c j := by
    intro c j q1 q2
    rw [e2, sg_o (by omega), sg_c q1]
  have t66 : ∀ j, τ2 66 j = if j = st f then nI 0 else τ1 66 j := fun j => by rw [e3, sg_if]
  have tt : ∀ c j, c ≠ 66 → τ2 c j = τ1 c j := fun c j q => by rw [e3]; exact sg_c q
  have hC : Ch (st f) (le f) σ σ2 := ⟨fun c j q1 q2 q3 => (oo c j q1 q3).trans (w1 c j q1 q2), fun j q => by
    rw [o8, if_neg (by omega)]
    exact (w2 j q).1⟩
  have p10 : ∀ w, w < le f → σ2 10 (st f + w) = 0 := fun w hw => (oo 10 _ (by omega) (by omega)).trans (w3 w hw).2
  have hp2 := ch_PI hC hp
  have hF72 : F7 τ τ2 (st f) (le f) := ⟨fun c j q1 q2 => (tt c j q1).trans (h7.1 c j q1 q2), fun j q => by rw [t66, if_neg (by omega)]; exact h7.2 j q⟩
  have hRl2 : Rl σ2 τ2 F Wd ar lo st le := ⟨hp2, pr_same h.2.1 (fun j _ => hF72.1 59 j (by decide) (by decide)) (fun c j _ q => hF72.1 c j (by omega) (by omega)), fun j hj => by
    rw [hF72.1 64 j (by decide) (by decide), hF72.1 65 j (by decide) (by decide), hC.1 6 j (by decide) (by decide) (by omega), hC.1 7 j (by decide) (by decide) (by omega)]
    exact h.2.2 j hj⟩
  have hfuel : (le f + 1) * (le f + 1) < N := by
    have : (le f + 1) * (le f + 1) ≤ 301 * 301 := Nat.mul_le_mul (by omega) (by omega)
    omega
  refine main_rel (by omega) hf hl0 N 0 (le f) σ2 τ2 N (by omega) (by omega) hfuel ⟨hp2, fun w hw => ?_, ⟨0, by omega, by rw [e2]; exact sg_at _ _ _ _, fun w _ q => by omega⟩, fun w hw => Or.inl (p10 w hw), fun w hw q => ?_, ?_, ?_⟩ hRl2 (fun w hw => ?_) (fun w hw => ?_) hF72
  · rw [o8]
    by_cases q : st f + w = st f
    · rw [if_pos q]; exact Or.inr ⟨0, by omega, rfl⟩
    · rw [if_neg q]; exact Or.inl (w3 w hw).1
  · rw [p10 w hw] at q
    exact absurd q (by decide)
  · rw [o8, if_pos rfl]
  · have hz : cn (fun w => decide (σ2 10 (st f + w) = 1)) (le f) = cn (fun _ => false) (le f) := cn_eq (fun w hw => by
      show decide (σ2 10 (st f + w) = 1) = false
      rw [p10 w hw]; decide)
    rw [hz]
    generalize le f = z
    induction z with
    | zero => rfl
    | succ z ih => unfold cn; rw [ih]; rfl
  · rw [t66, o8]
    by_cases q : st f + w = st f
    · rw [if_pos q, if_pos q]
    · rw [if_neg q, if_neg q, (hw7 w hw).1, (w3 w hw).1]
  · rw [tt 67 _ (by decide), (hw7 w hw).2, p10 w hw]
