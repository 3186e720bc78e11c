/-- those that hold a register have one, and no SLOT -/
def HSr (σ : Sg) (f R : Nat) : Prop := ∀ k, k < 24 → ¬ σ 83 k = 0 → Bl (σ 79 (24 * f + k)) R ∧ σ 80 (24 * f + k) = (-1)
def HGr (σ : Sg) (f R : Nat) (D : Nat → Prop) : Prop :=
  (∀ v, v < 24 → D v → HMr σ f R v) ∧ (∀ v, v < 24 → ¬ D v → σ 79 (24 * f + v) = (-1) ∧ σ 80 (24 * f + v) = (-1) ∧ σ 83 v = 0) ∧ HSr σ f R ∧ ∃ s, σ 81 f = nI s ∧ s ≤ cn (fun w => decide (¬ σ 80 (24 * f + w) = (-1))) 24
theorem hgr_iff {σ : Sg} {f R : Nat} {D D' : Nat → Prop} (h : HGr σ f R D) (e : ∀ v, v < 24 → (D' v ↔ D v)) : HGr σ f R D' :=
  ⟨fun v hv q => h.1 v hv ((e v hv).mp q), fun v hv q => h.2.1 v hv (fun z => q ((e v hv).mpr z)), h.2.2⟩
theorem sc18_loop {N n : Nat} {σ0 : Sg} {u2 u3 : Int32} {f R : Nat} (hf : f < 12) {D : Nat → Prop} {K : Sg → Int32 → Int32 → Option (Int32 × Sg)} {P : Int32 × Sg → Prop}
    (hK : ∀ (σ : Sg) (a x : Int32), HGr σ f R D → (∀ c j, c ≠ 83 → σ c j = σ0 c j) → Ok (K σ a x) P) :
    ∀ (k v : Nat) (σ : Sg) (a : Int32), v ≤ 24 → 24 < v + k → HGr σ f R D → (∀ c j, c ≠ 83 → σ c j = σ0 c j) → Ok (lf_X12_scans_18 N n (nI f) u2 u3 K k σ a (nI v)) P := by
  intro k
  induction k with
  | zero => intro v σ a h1 h2; omega
  | succ k ih =>
    intro v σ a h1 h2 hG hs
    show Ok (lb_X12_scans_18 N n (nI f) u2 u3 K (lf_X12_scans_18 N n (nI f) u2 u3 K k) σ a (nI v)) P
    unfold lb_X12_scans_18
    have e0 : ((24 : Int32) ≤ nI v) = (24 ≤ v) := le_ln (k := 24) (by omega) (by decide)
    refine ok_if (fun _ => hK σ a _ hG hs) (fun c => ?_)
    rw [e0] at c
    rw [ml_ln f 24, ad_nn, ad_nl v 1]
    have e1 : OfNat.ofNat 24 * f + v = 24 * f + v := rfl
    have gi : ∀ y : Option (Int32 × Sg), gb (nI (24 * f + v)) 288 y = y := fun y => gb_nI (show 24 * f + v < 288 by omega) (by decide)
    have gv : ∀ y : Option (Int32 × Sg), gb (nI v) 24 y = y := fun y => gb_nI (show v < 24 by omega) (by decide)
    rw [e1]
    simp only [gi, gv]
    rw [ix_nI (k := v) (by omega)]
    obtain ⟨g1, g2, g3, s, g4, g5⟩ := hG
    have nxt : ∀ (x a' : Int32), (¬ x = 0 → ¬ σ 83 v = 0) → Ok (lf_X12_scans_18 N n (nI f) u2 u3 K k (sg σ 83 v x) a' (nI (v + 1))) P := fun x a' hx => by
      refine ih (v + 1) _ a' (by omega) (by omega) ⟨fun w hw q => ?_, fun w hw q => ?_, fun w hw q => ?_, s, (sg_c (by decide)).trans g4, ?_⟩ (fun c j z => (sg_c z).trans (hs c j z))
      · unfold HMr; rw [sg_c (by decide), sg_c (by decide)]; exact g1 w hw q
      · rw [sg_c (by decide), sg_c (by decide), sg_if]
        obtain ⟨z1, z2, z3⟩ := g2 w hw q
        refine ⟨z1, z2, ?_⟩
        by_cases e : w = v
        · rw [if_pos e]
          exact Classical.byContradiction fun y => (hx y) (by rw [← e]; exact z3)
        · rw [if_neg e]; exact z3
      · rw [sg_if] at q
        rw [sg_c (by decide), sg_c (by decide)]
        by_cases e : w = v
        · rw [if_pos e] at q
          rw [e]; exact g3 v (by omega) (hx q)
        · rw [if_neg e] at q; exact g3 w hw q
      · simp (disch := decide) only [sg_c]; exact g5
    exact ok_if (fun _ => nxt 0 a (fun q => absurd rfl q)) (fun z => ok_if (fun _ => nxt 0 a (fun q => absurd rfl q)) (fun _ => nxt 1 _ (fun _ => z)))
theorem sc106_loop {N n : Nat} {σ : Sg} {u1 u2 u4 : Int32} {R : Nat} (hR : R ≤ 14) (h22 : σ 59 22 = nI (R + 2)) {K : Sg → Int32 → Option (Int32 × Sg)} {P : Int32 × Sg → Prop} (hK : ∀ v, v ≤ R → Ok (K σ (nI v)) P) :
    ∀ (k v : Nat), v ≤ R → R < v + k → Ok (lf_X12_scans_106 N n u1 u2 u4 K k σ (nI v)) P := by
  intro k
  induction k with
  | zero => intro v h1 h2; omega
  | succ k ih =>
    intro v h1 h2
    show Ok (lb_X12_scans_106 N n u1 u2 u4 K (lf_X12_scans_106 N n u1 u2 u4 K k) σ (nI v)) P
    unfold lb_X12_scans_106
    have e2 : nI (R + 2) - 2 = nI R := (sb_nl (k := 2) (show 2 ≤ R + 2 by omega)).trans (congrArg nI (show R + 2 - 2 = R by omega))
    rw [h22, e2, ad_nl v 1]
    refine ok_if (fun _ => hK v h1) (fun c => ok_if (fun _ => ih (v + 1) ?_ (by omega)) (fun _ => hK v h1))
    rw [le_nn (by omega) (by omega)] at c
    omega
theorem sc172_loop {N n : Nat} {σ : Sg} {u2 : Int32} {f v0 : Nat} (hf : f < 12) {K : Sg → Int32 → Int32 → Option (Int32 × Sg)} {P : Int32 × Sg → Prop} (hK : ∀ (u : Nat) (x : Int32), u < 24 → (u = v0 ∨ ¬ σ 83 u = 0) → Ok (K σ (nI u) x) P) :
    ∀ (k v u : Nat), v ≤ 24 → 24 < v + k → u < 24 → (u = v0 ∨ ¬ σ 83 u = 0) → Ok (lf_X12_scans_172 N n (nI f) u2 K k σ (nI u) (nI v)) P := by
  intro k
  induction k with
  | zero => intro v u h1 h2; omega
  | succ k ih =>
    intro v u h1 h2 hu hq
    show Ok (lb_X12_scans_172 N n (nI f) u2 K (lf_X12_scans_172 N n (nI f) u2 K k) σ (nI u) (nI v)) P
    unfold lb_X12_scans_172
    have e0 : ((24 : Int32) ≤ nI v) = (24 ≤ v) := le_ln (k := 24) (by omega) (by decide)
    refine ok_if (fun _ => hK u _ hu hq) (fun c => ?_)
    rw [e0] at c
    rw [ml_ln f 24, ad_nn, ad_nn, ad_nl v 1]
    have e1 : OfNat.ofNat 24 * f + v = 24 * f + v := rfl
    have e2 : OfNat.ofNat 24 * f + u = 24 * f + u := rfl
    have gi : ∀ y : Option (Int32 × Sg), gb (nI (24 * f + v)) 288 y = y := fun y => gb_nI (show 24 * f + v < 288 by omega) (by decide)
    have gu : ∀ y : Option (Int32 × Sg), gb (nI (24 * f + u)) 288 y = y := fun y => gb_nI (show 24 * f + u < 288 by omega) (by decide)
    have gv : ∀ y : Option (Int32 × Sg), gb (nI v) 24 y = y := fun y => gb_nI (show v < 24 by omega) (by decide)
    rw [e1, e2]
    simp only [gi, gu, gv]
    rw [ix_nI (k := v) (by omega)]
    have a : Ok (lf_X12_scans_172 N n (nI f) u2 K k σ (nI u) (nI (v + 1))) P := ih (v + 1) u (by omega) (by omega) hu hq
    have b : ¬ σ 83 v = 0 → Ok (lf_X12_scans_172 N n (nI f) u2 K k σ (nI v) (nI (v + 1))) P := fun z => ih (v + 1) v (by omega) (by omega) (by omega) (Or.inr z)
    exact ok_if (fun _ => ok_if (fun _ => a) (fun z => b z)) (fun _ => ok_if (fun _ => ok_if (fun _ => ok_if (fun _ => a) (fun _ => a)) (fun _ => ok_if (fun _ => a) (fun z => b z))) (fun _ => ok_if (fun _ => a) (fun _ => a)))
theorem cn_slotr {σ σ' : Sg} {f u : Nat} (hu : u < 24) (h0 : σ 80 (24 * f + u) = (-1)) (h1 : ¬ σ' 80 (24 * f + u) = (-1)) (h : ∀ w, w < 24 → w ≠ u → σ' 80 (24 * f + w) = σ 80 (24 * f + w)) :
    cn (fun w => decide (¬ σ' 80 (24 * f + w) = (-1))) 24 = cn (fun w => decide (¬ σ 80 (24 * f + w) = (-1))) 24 + 1 := by
  refine cn_set hu (decide_eq_false (fun q => q h0)) (decide_eq_true h1) (fun w hw hn => ?_)
  show decide (¬ σ' 80 (24 * f + w) = (-1)) = decide (¬ σ 80 (24 * f + w) = (-1))
  rw [h w hw hn]
theorem cn_roomr {σ : Sg} {f u : Nat} (hu : u < 24) (h0 : σ 80 (24 * f + u) = (-1)) : cn (fun w => decide (¬ σ 80 (24 * f + w) = (-1))) 24 < 24 := by
  have h1 := cn_le (fun w => decide (¬ σ 80 (24 * f + w) = (-1))) 24
  by_cases e : cn (fun w => decide (¬ σ 80 (24 * f + w) = (-1))) 24 = 24
  · have h2 : decide (¬ σ 80 (24 * f + u) = (-1)) = true := cn_full (p := fun w => decide (¬ σ 80 (24 * f + w) = (-1))) e u hu
    exact absurd h0 (of_decide_eq_true h2)
  · omega
theorem scans_ok {N n : Nat} (hN : 1000 ≤ N) {σ : Sg} {f R v : Nat} (hf : f < 12) (hR : R ≤ 14) (hv : v < 24) (h22 : σ 59 22 = nI (R + 2)) {D : Nat → Prop} (hD : ¬ D v) (hG : HGr σ f R D) :
    Ok (f_X12_scans N n σ (nI f) (nI v)) (fun y => HGr y.2 f R (fun w => D w ∨ w = v) ∧ ∀ c j, (c < 79 ∨ 83 < c) → y.2 c j = σ c j) := by
  have e2 : nI (R + 2) - 2 = nI R := (sb_nl (k := 2) (show 2 ≤ R + 2 by omega)).trans (congrArg nI (show R + 2 - 2 = R by omega))
  unfold f_X12_scans
  rw [ml_ln f 24, ad_nn]
  have e1 : OfNat.ofNat 24 * f + v = 24 * f + v := rfl
  have e3 : OfNat.ofNat 24 * f = 24 * f := rfl
  rw [e1, e3, gb_nI (show 24 * f + v < 288 by omega) (by decide), ix_nI (k := 24 * f + v) (by omega), ix_nI (k := v) (by omega), ix_nI (k := f) (by omega)]
  refine sc18_loop (σ0 := σ) hf (fun σ1 a x hG1 hs => ?_) N 0 σ 0 (by omega) (by omega) hG (fun _ _ _ => rfl)
  have f22 : σ1 59 22 = nI (R + 2) := (hs 59 22 (by decide)).trans h22
  refine sc106_loop hR f22 (fun t ht => ?_) N 0 (by omega) (by omega)
  obtain ⟨g1, g2, g3, s, g4, g5⟩ := hG1
  obtain ⟨d1, d2, d3⟩ := g2 v hv hD
  rw [f22, e2]
  refine ok_if (fun c => ?_) (fun c => ?_)
  · refine sc172_loop (v0 := v) hf (fun u y hu hor => ?_) N 0 v (by omega) (by omega) hv (Or.inl rfl)
    have gf : ∀ y : Option (Int32 × Sg), gb (nI f) 12 y = y := fun y => gb_nI hf (by decide)
    have gu : ∀ y : Option (Int32 × Sg), gb (nI (24 * f + u)) 288 y = y := fun y => gb_nI (show 24 * f + u < 288 by omega) (by decide)
    have gvv : ∀ y : Option (Int32 × Sg), gb (nI (24 * f + v)) 288 y = y := fun y => gb_nI (show 24 * f + v < 288 by omega) (by decide)
    have ea : nI (24 * f) + nI u = nI (24 * f + u) := ad_nn _ _
    rw [ea]
    simp only [gf, gu, gvv]
    rw [ix_nI (k := 24 * f + u) (by omega), g4, ad_nl s 1]
    have hu80 : σ1 80 (24 * f + u) = (-1) := by
      rcases hor with q | q
      · rw [q]; exact d2
      · exact (g3 u hu q).2
    have hs24 : s < 24 := by have := cn_roomr (σ := σ1) (f := f) hu hu80; omega
    refine ok_if (fun z => ?_) (fun z => ?_)
    · rw [eq_nn (by omega) (by omega)] at z
      subst z
      have o80 : ∀ j, (sg (sg σ1 80 (24 * f + u) (nI s)) 81 f (nI (s + 1))) 80 j = if j = 24 * f + u then nI s else σ1 80 j := fun j => by rw [sg_c (by decide), sg_if]
      have oc : ∀ c j, c ≠ 80 → c ≠ 81 → (sg (sg σ1 80 (24 * f + u) (nI s)) 81 f (nI (s + 1))) c j = σ1 c j := fun c j a b => by rw [sg_c b, sg_c a]
      refine ok_ret ⟨⟨fun w hw q => ?_, fun w hw q => ?_, fun k hk q => ?_, s + 1, show (sg (sg σ1 80 (24 * f + u) (nI s)) 81 f (nI (s + 1))) 81 f = nI (s + 1) from sg_at _ _ _ _, ?_⟩, fun c j q => (oc c j (by omega) (by omega)).trans (hs c j (by omega))⟩
      · show HMr (sg (sg σ1 80 (24 * f + u) (nI s)) 81 f (nI (s + 1))) f R w
        unfold HMr
        rw [o80, oc 79 _ (by decide) (by decide)]
        by_cases e : w = u
        · rw [if_pos (by omega)]; exact Or.inr (bl_n hs24)
        · rw [if_neg (by omega)]; exact g1 w hw (q.resolve_right e)
      · have e : w ≠ u := fun z => q (Or.inr z)
        show (sg (sg σ1 80 (24 * f + u) (nI s)) 81 f (nI (s + 1))) 79 _ = _ ∧ (sg (sg σ1 80 (24 * f + u) (nI s)) 81 f (nI (s + 1))) 80 _ = _ ∧ (sg (sg σ1 80 (24 * f + u) (nI s)) 81 f (nI (s + 1))) 83 _ = _
        rw [o80, oc 79 _ (by decide) (by decide), oc 83 _ (by decide) (by decide), if_neg (by omega)]
        exact g2 w hw (fun z => q (Or.inl z))
      · have q : ¬ (sg (sg σ1 80 (24 * f + u) (nI s)) 81 f (nI (s + 1))) 83 k = 0 := q
        rw [oc 83 _ (by decide) (by decide)] at q
        have e : k ≠ u := fun z => q (by rw [z]; exact d3)
        show Bl ((sg (sg σ1 80 (24 * f + u) (nI s)) 81 f (nI (s + 1))) 79 _) R ∧ (sg (sg σ1 80 (24 * f + u) (nI s)) 81 f (nI (s + 1))) 80 _ = _
        rw [o80, oc 79 _ (by decide) (by decide), if_neg (by omega)]
        exact g3 k hk q
      · show s + 1 ≤ cn (fun w => decide (¬ (sg (sg σ1 80 (24 * f + u) (nI s)) 81 f (nI (s + 1))) 80 (24 * f + w) = (-1))) 24
        rw [cn_slotr (σ := σ1) (u := u) hu hu80 (by rw [o80, if_pos rfl]; exact n1_ne (by omega)) (fun w hw hn => by rw [o80, if_neg (by omega)])]
        omega
    · rw [eq_nn (by omega) (by omega)] at z
      obtain ⟨z1, z2⟩ := g3 u hu (hor.resolve_left z)
      rw [gb_nI hu (by decide), gb_nI hv (by decide), ix_nI (k := u) (by omega)]
      obtain ⟨σ3, e3'⟩ : ∃ z, z = sg (sg (sg (sg (sg (sg σ1 80 (24 * f + u) (nI s)) 81 f (nI (s + 1))) 79 (24 * f + v) (σ1 79 (24 * f + u))) 79 (24 * f + u) (-1)) 83 u 0) 83 v 1 := ⟨_, rfl⟩
      have o80 : ∀ j, σ3 80 j = if j = 24 * f + u then nI s else σ1 80 j := fun j => by
        rw [e3']; simp (disch := decide) only [sg_c]; exact sg_if _ _ _ _ _
      have o79 : ∀ j, σ3 79 j = if j = 24 * f + u then (-1) else if j = 24 * f + v then σ1 79 (24 * f + u) else σ1 79 j := fun j => by
        rw [e3', sg_c (by decide), sg_c (by decide), sg_if, sg_if, sg_c (by decide), sg_c (by decide)]
      have o81 : σ3 81 f = nI (s + 1) := by
        rw [e3']; simp (disch := decide) only [sg_c]; exact sg_at _ _ _ _
      have o83 : ∀ r, σ3 83 r = if r = v then 1 else if r = u then 0 else σ1 83 r := fun r => by
        rw [e3', sg_if, sg_if]; simp (disch := decide) only [sg_c]
      have oc : ∀ c j, (c < 79 ∨ 83 < c) → σ3 c j = σ1 c j := fun c j q => by
        rw [e3', sg_c (by omega), sg_c (by omega), sg_c (by omega), sg_c (by omega), sg_c (by omega), sg_c (by omega)]
      refine ⟨(0, σ3), by rw [e3'], ⟨fun w hw q => ?_, fun w hw q => ?_, fun k hk q => ?_, s + 1, o81, ?_⟩, fun c j q => (oc c j q).trans (hs c j (by omega))⟩
      · show HMr σ3 f R w
        unfold HMr
        rw [o80, o79]
        by_cases e : w = u
        · rw [if_pos (show 24 * f + w = 24 * f + u by omega)]; exact Or.inr (bl_n hs24)
        · rw [if_neg (show ¬ 24 * f + w = 24 * f + u by omega), if_neg (show ¬ 24 * f + w = 24 * f + u by omega)]
          by_cases e4 : w = v
          · rw [if_pos (by omega), e4]; exact Or.inl ⟨d2, z1⟩
          · rw [if_neg (by omega)]; exact g1 w hw (q.resolve_right e4)
      · have e : w ≠ v := fun z => q (Or.inr z)
        have nd := g2 w hw (fun y => q (Or.inl y))
        have e4 : w ≠ u := fun y => by
          rw [y] at nd
          exact (hor.resolve_left z) nd.2.2
        show σ3 79 _ = _ ∧ σ3 80 _ = _ ∧ σ3 83 _ = _
        rw [o80, o79, o83, if_neg (show ¬ 24 * f + w = 24 * f + u by omega), if_neg (show ¬ 24 * f + w = 24 * f + v by omega), if_neg (show ¬ 24 * f + w = 24 * f + u by omega), if_neg e, if_neg e4]
        exact nd
      · have q : ¬ σ3 83 k = 0 := q
        show Bl (σ3 79 _) R ∧ σ3 80 _ = _
        rw [o83] at q
        by_cases e : k = v
        · rw [o79, o80, if_neg (by omega), if_pos (by omega), if_neg (by omega), e]
          exact ⟨z1, d2⟩
        · rw [if_neg e] at q
          by_cases e4 : k = u
          · rw [if_pos e4] at q; exact absurd rfl q
          · rw [if_neg e4] at q
            rw [o79, o80, if_neg (by omega), if_neg (by omega), if_neg (by omega)]
            exact g3 k hk q
      · show s + 1 ≤ cn (fun w => decide (¬ σ3 80 (24 * f + w) = (-1))) 24
        rw [cn_slotr (σ := σ1) (u := u) hu hu80 (by rw [o80, if_pos rfl]; exact n1_ne (by omega)) (fun w hw hn => by rw [o80, if_neg (by omega)])]
        omega
  · rw [le_nn (by omega) (by omega)] at c
    rw [gb_nI (show 24 * f + v < 288 by omega) (by decide), gb_nI hv (by decide)]
    have o79 : ∀ j, (sg (sg σ1 79 (24 * f + v) (nI t)) 83 v 1) 79 j = if j = 24 * f + v then nI t else σ1 79 j := fun j => by rw [sg_c (by decide), sg_if]
    have o83 : ∀ j, (sg (sg σ1 79 (24 * f + v) (nI t)) 83 v 1) 83 j = if j = v then 1 else σ1 83 j := fun j => by rw [sg_if, sg_c (by decide)]
    have oc : ∀ c j, c ≠ 79 → c ≠ 83 → (sg (sg σ1 79 (24 * f + v) (nI t)) 83 v 1) c j = σ1 c j := fun c j a b => by rw [sg_c b, sg_c a]
    refine ok_ret ⟨⟨fun w hw q => ?_, fun w hw q => ?_, fun k hk q => ?_, s, (oc 81 f (by decide) (by decide)).trans g4, ?_⟩, fun c j q => (oc c j (by omega) (by omega)).trans (hs c j (by omega))⟩
    · show HMr (sg (sg σ1 79 (24 * f + v) (nI t)) 83 v 1) f R w
      unfold HMr
      rw [o79, oc 80 _ (by decide) (by decide)]
      by_cases e : w = v
      · rw [if_pos (by omega), e]; exact Or.inl ⟨d2, bl_n (by omega)⟩
      · rw [if_neg (by omega)]; exact g1 w hw (q.resolve_right e)
    · have e : w ≠ v := fun z => q (Or.inr z)
      show (sg (sg σ1 79 (24 * f + v) (nI t)) 83 v 1) 79 _ = _ ∧ (sg (sg σ1 79 (24 * f + v) (nI t)) 83 v 1) 80 _ = _ ∧ (sg (sg σ1 79 (24 * f + v) (nI t)) 83 v 1) 83 _ = _
      rw [o79, o83, oc 80 _ (by decide) (by decide), if_neg (by omega), if_neg e]
      exact g2 w hw (fun z => q (Or.inl z))
    · have q : ¬ (sg (sg σ1 79 (24 * f + v) (nI t)) 83 v 1) 83 k = 0 := q
      show Bl ((sg (sg σ1 79 (24 * f + v) (nI t)) 83 v 1) 79 _) R ∧ (sg (sg σ1 79 (24 * f + v) (nI t)) 83 v 1) 80 _ = _
      rw [o83] at q
      rw [o79, oc 80 _ (by decide) (by decide)]
      by_cases e : k = v
      · rw [if_pos (by omega), e]; exact ⟨bl_n (by omega), d2⟩
      · rw [if_neg e] at q
        rw [if_neg (by omega)]; exact g3 k hk q
    · show s ≤ cn (fun w => decide (¬ (sg (sg σ1 79 (24 * f + v) (nI t)) 83 v 1) 80 (24 * f + w) = (-1))) 24
      simp (disch := decide) only [sg_c]; exact g5
def Dr (σ : Sg) (f p v : Nat) : Nat → Prop := fun w => ∃ q, q < 300 ∧ σ 77 (24 * f + w) = nI q ∧ (q < p ∨ (q = p ∧ w < v))
theorem sp230_loop {N n : Nat} (hN : 1000 ≤ N) {σ0 : Sg} {f R p : Nat} (hf : f < 12) (hR : R ≤ 14) (hp : p < 300) (h22 : σ0 59 22 = nI (R + 2)) {K : Sg → Int32 → Option (Int32 × Sg)} {P : Int32 × Sg → Prop}
    (hK : ∀ (σ : Sg) (x : Int32), (∀ c j, (c < 79 ∨ 83 < c) → σ c j = σ0 c j) → HGr σ f R (Dr σ0 f (p + 1) 0) → Ok (K σ x) P) :
    ∀ (k v : Nat) (σ : Sg), v ≤ 24 → 24 < v + k → (∀ c j, (c < 79 ∨ 83 < c) → σ c j = σ0 c j) → HGr σ f R (Dr σ0 f p v) → Ok (lf_X12_spans_230 N n (nI f) (nI p) K k σ (nI v)) P := by
  intro k
  induction k with
  | zero => intro v σ h1 h2; omega
  | succ k ih =>
    intro v σ h1 h2 hs hG
    show Ok (lb_X12_spans_230 N n (nI f) (nI p) K (lf_X12_spans_230 N n (nI f) (nI p) K k) σ (nI v)) P
    unfold lb_X12_spans_230
    have e0 : ((24 : Int32) ≤ nI v) = (24 ≤ v) := le_ln (k := 24) (by omega) (by decide)
    refine ok_if (fun c => ?_) (fun c => ?_)
    · rw [e0] at c
      refine hK σ _ hs (hgr_iff hG (fun w hw => ⟨fun ⟨q, a, b, d⟩ => ⟨q, a, b, by omega⟩, fun ⟨q, a, b, d⟩ => ⟨q, a, b, by omega⟩⟩))
    · rw [e0] at c
      rw [ml_ln f 24, ad_nn, ad_nl v 1]
      have e1 : OfNat.ofNat 24 * f + v = 24 * f + v := rfl
      rw [e1, gb_nI (show 24 * f + v < 288 by omega) (by decide), ix_nI (k := 24 * f + v) (by omega), hs 77 _ (by omega)]
      refine ok_if (fun z => ?_) (fun z => ?_)
      · have hnd : ¬ Dr σ0 f p v v := fun ⟨q, a, b, d⟩ => by
          have : q = p := (nI_eq (by omega) (by omega)).mp (b.symm.trans z)
          omega
        refine ok_bd (scans_ok hN hf hR (by omega) ((hs 59 22 (by omega)).trans h22) hnd hG) (fun r σ1 _ h1 => ?_)
        obtain ⟨h1, f1⟩ := h1
        refine ih (v + 1) σ1 (by omega) (by omega) (fun c j q => (f1 c j q).trans (hs c j q)) (hgr_iff h1 (fun w hw => ⟨fun ⟨q, a, b, d⟩ => ?_, fun q => ?_⟩))
        · by_cases e : w = v
          · exact Or.inr e
          · exact Or.inl ⟨q, a, b, by omega⟩
        · rcases q with ⟨q, a, b, d⟩ | q
          · exact ⟨q, a, b, by omega⟩
          · exact ⟨p, hp, by rw [q]; exact z, by omega⟩
      · refine ih (v + 1) σ (by omega) (by omega) hs (hgr_iff hG (fun w hw => ⟨fun ⟨q, a, b, d⟩ => ?_, fun ⟨q, a, b, d⟩ => ⟨q, a, b, by omega⟩⟩))
        by_cases e : w = v
        · subst e
          by_cases e2 : q = p
          · exact absurd (e2 ▸ b) z
          · exact ⟨q, a, b, by omega⟩
        · exact ⟨q, a, b, by omega⟩
theorem sp220_loop {N n : Nat} (hN : 1000 ≤ N) {σ0 : Sg} {f R T : Nat} (hf : f < 12) (hR : R ≤ 14) (hT : T ≤ 300) (h22 : σ0 59 22 = nI (R + 2)) (h12 : σ0 59 12 = nI T) :
    ∀ (k v : Nat) (σ : Sg), v ≤ T → T < v + k → (∀ c j, (c < 79 ∨ 83 < c) → σ c j = σ0 c j) → HGr σ f R (Dr σ0 f v 0) → Ok (lf_X12_spans_220 N n (nI f) (fun σ40 _ => some (0, σ40)) k σ (nI v)) (fun y => HGr y.2 f R (Dr σ0 f T 0)) := by
  intro k
  induction k with
  | zero => intro v σ h1 h2; omega
  | succ k ih =>
    intro v σ h1 h2 hs hG
    show Ok (lb_X12_spans_220 N n (nI f) _ (lf_X12_spans_220 N n (nI f) _ k) σ (nI v)) _
    unfold lb_X12_spans_220
    rw [(hs 59 12 (by omega)).trans h12]
    refine ok_if (fun c => ?_) (fun c => ?_)
    · rw [le_nn (by omega) (by omega)] at c
      obtain rfl : v = T := by omega
      exact ok_ret hG
    · rw [le_nn (by omega) (by omega)] at c
      refine sp230_loop hN hf hR (by omega) h22 (fun σ1 x a b => ?_) N 0 σ (by omega) (by omega) hs hG
      rw [ad_nl v 1]
      exact ih (v + 1) σ1 (by omega) (by omega) a b
theorem spans_ok {N n : Nat} (hN : 1000 ≤ N) {σ : Sg} {F T f R : Nat} (hL : QL σ F T) (hf : f < 12) (hR : R ≤ 14) (h22 : σ 59 22 = nI (R + 2)) : Ok (f_X12_spans N n σ (nI f)) (fun y => ∀ p w, p < T → w < 22 → Nr σ p w → HMr y.2 f R w) := by
  have hT := hL.2.2.1
  unfold f_X12_spans
  refine sp2_loop (σ0 := σ) hf (fun σ1 x a1 a2 => ?_) N 0 σ (by omega) (by omega) (fun w hw => by omega) (fun _ _ _ _ _ _ _ => rfl)
  have hL1 : QL σ1 F T := ql_mid hL (a2 59 12 (by decide) (by decide) (by decide) (by decide) (by decide)) (fun c j _ _ => a2 c j (by omega) (by omega) (by omega) (by omega) (by omega))
  refine sp71_loop hN hL1 hf (fun σ2 x hs h3 => ?_) N 0 σ1 (by omega) (by omega) (fun _ _ _ _ => rfl) (fun w hw => ⟨Or.inl (a1 w hw).1, fun p hp => by omega⟩)
  rw [gb_nI hf (by decide), ix_nI (k := f) (by omega)]
  obtain ⟨σ3, e3⟩ : ∃ z, z = sg σ2 81 f 0 := ⟨_, rfl⟩
  rw [← e3]
  have o3 : ∀ c j, c ≠ 81 → σ3 c j = σ2 c j := fun c j q => by rw [e3]; exact sg_c q
  refine ok_mono (sp220_loop hN (σ0 := σ3) (T := T) hf hR hT ?_ ?_ N 0 σ3 (by omega) (by omega) (fun _ _ _ => rfl) ⟨fun v hv ⟨q, qa, qb, qc⟩ => by omega, fun v hv _ => ?_, fun k hk q => ?_, 0, ?_, Nat.zero_le _⟩) (fun y hy p w hp hw hn => ?_)
  · rw [o3 59 22 (by decide), hs 59 22 (by decide) (by decide), a2 59 22 (by decide) (by decide) (by decide) (by decide) (by decide)]; exact h22
  · rw [o3 59 12 (by decide), hs 59 12 (by decide) (by decide)]; exact hL1.1
  · rw [o3 79 _ (by decide), o3 80 _ (by decide), o3 83 _ (by decide), hs 79 _ (by decide) (by decide), hs 80 _ (by decide) (by decide), hs 83 _ (by decide) (by decide)]
    exact (a1 v hv).2
  · exfalso
    apply q
    rw [o3 83 _ (by decide), hs 83 _ (by decide) (by decide)]
    exact (a1 k hk).2.2.2
  · rw [e3]; exact sg_at _ _ _ _
  · obtain ⟨b1, b2⟩ := h3 w (by omega)
    refine hy.1 w (by omega) ?_
    have hn2 : Nr σ1 p w := by
      unfold Nr at hn ⊢
      rw [a2 76 p (by decide) (by decide) (by decide) (by decide) (by decide), a2 71 p (by decide) (by decide) (by decide) (by decide) (by decide)]
      rcases hn with q | ⟨c, i, q1, q2, q3, q4⟩
      · exact Or.inl q
      · exact Or.inr ⟨c, i, q1, q2, q3, (a2 70 _ (by decide) (by decide) (by decide) (by decide) (by decide)).trans q4⟩
    obtain ⟨q, q1, q2⟩ := b1.resolve_left (b2 p hp hw hn2)
    exact ⟨q, by omega, (o3 77 _ (by decide)).trans q2, Or.inl q1⟩
