/-- FUNC f keeps to all rules wherever it can be reached -/
def WF (σ : Sg) (F : Nat) (ar lo st le : Nat → Nat) (f : Nat) : Prop := σ 8 (st f) = nI 0 ∧ ∀ w, w < le f → σ 8 (st f + w) = (-1) ∨ WW σ F ar lo st le f w
/-- the checker's work at the FUNC at S: nothing else changes -/
def Ch (S Ln : Nat) (σ σ' : Sg) : Prop := (∀ c j, c ≠ 8 → c ≠ 10 → ¬ (c = 9 ∧ j = 2) → σ' c j = σ c j) ∧ ∀ j, (j < S ∨ S + Ln ≤ j) → σ' 8 j = σ 8 j
theorem ch_gr {S Ln : Nat} {σ σ1 σ2 : Sg} (h : Ch S Ln σ σ1) (k : Gr S Ln σ1 σ2) : Ch S Ln σ σ2 := ⟨fun c j q1 q2 q3 => (k.1 c j q1 q3).trans (h.1 c j q1 q2 q3), fun j q => (k.2.1 j q).trans (h.2 j q)⟩
theorem ch_PI {S Ln : Nat} {σ σ' : Sg} {F Wd : Nat} {ar lo st le : Nat → Nat} (h : Ch S Ln σ σ') (k : PI σ F Wd ar lo st le) : PI σ' F Wd ar lo st le := by
  have e := h.1
  obtain ⟨h1, h2, h3, h4, h5, h6, h7, h8, h9⟩ := k
  refine ⟨(e 1 7 (by omega) (by omega) (by omega)).trans h1, h2, (e 1 8 (by omega) (by omega) (by omega)).trans h3, h4, fun f hf => (e 2 f (by omega) (by omega) (by omega)).trans (h5 f hf), fun f hf => (e 3 f (by omega) (by omega) (by omega)).trans (h6 f hf), fun f hf => (e 4 f (by omega) (by omega) (by omega)).trans (h7 f hf), fun f hf => (e 5 f (by omega) (by omega) (by omega)).trans (h8 f hf), h9⟩
theorem gr_WW {S Ln : Nat} {σ σ' : Sg} {F a : Nat} {ar lo st le : Nat → Nat} {f w : Nat} (hS : st f = S) (hL : le f = Ln) (hw : w < Ln) (ha : a < 2147483648) (e : σ 9 2 = nI a) (h : Gr S Ln σ σ') (k : WW σ F ar lo st le f w) : WW σ' F ar lo st le f w := by
  subst hS
  subst hL
  obtain ⟨o, y, d, h1, h2, h3, h4, h5, h6, h7, h8, h9, h10⟩ := k
  have s6 := (h.1 6 (st f + w) (by omega) (by omega)).trans h3
  have s7 := h.1 7 (st f + w) (by omega) (by omega)
  exact ⟨o, y, d, h1, h2, s6, gr_keep ha e h hw (by omega) h4, h5, h6, fun q => ⟨(h7 q).1, s7.trans (h7 q).2⟩, fun q => ⟨(h8 q).1, s7.trans (h8 q).2.1, gr_keep ha e h (h8 q).1 (by omega) (h8 q).2.2⟩, fun q => ⟨(h9 q).1, s7.trans (h9 q).2⟩, fun q1 q2 => ⟨(h10 q1 q2).1, gr_keep ha e h (h10 q1 q2).1 (by omega) (h10 q1 q2).2⟩⟩
theorem WW_same {σ σ' : Sg} {F : Nat} {ar lo st le : Nat → Nat} {f w : Nat} (h6 : ∀ j, σ' 6 j = σ 6 j) (h7 : ∀ j, σ' 7 j = σ 7 j) (h8 : ∀ j, σ' 8 j = σ 8 j) (k : WW σ F ar lo st le f w) : WW σ' F ar lo st le f w := by
  unfold WW at k ⊢
  simp only [h6, h7, h8]
  exact k
/-- what holds while the WORDS of one FUNC are gone through -/
def MI (σ : Sg) (F Wd : Nat) (ar lo st le : Nat → Nat) (f v : Nat) : Prop :=
  PI σ F Wd ar lo st le ∧ DI (st f) (le f) σ ∧ (∃ a, a ≤ le f ∧ σ 9 2 = nI a ∧ ∀ w, w < le f → w < a → ¬ σ 8 (st f + w) = (-1) → σ 10 (st f + w) = 1) ∧ (∀ w, w < le f → σ 10 (st f + w) = 0 ∨ σ 10 (st f + w) = 1) ∧
  (∀ w, w < le f → σ 10 (st f + w) = 1 → WW σ F ar lo st le f w) ∧ σ 8 (st f) = nI 0 ∧ cn (fun w => decide (σ 10 (st f + w) = 1)) (le f) = v
theorem main_ok {N n : Nat} (hN : 1000 ≤ N) {σ0 : Sg} {F Wd : Nat} {ar lo st le : Nat → Nat} {f : Nat} (hf : f < F) (hl0 : 0 < le f) :
    ∀ (k v : Nat) (σ : Sg), v ≤ le f → le f < v + k → MI σ F Wd ar lo st le f v → Ch (st f) (le f) σ0 σ →
      Ok (lf_X0_faultOfFunc_76 N n (nI f) (nI (st f)) (nI (le f)) (fun σ19 _ => some (0, σ19)) k σ (nI v)) (fun y => Ch (st f) (le f) σ0 y.2 ∧ (y.1 = 0 → WF y.2 F ar lo st le f)) := by
  intro k
  induction k with
  | zero => intro v σ h1 h2; omega
  | succ k ih =>
    intro v σ h1 h2 hM hC
    obtain ⟨hp, hD, ⟨a, ha, ea, hJ2⟩, hpas, hJ1, hD0, hcn⟩ := hM
    have hp' := hp
    obtain ⟨g1, g2, g3, g4, g5, g6, g7, g8, g9, g10, g11⟩ := hp'
    have q9 := g9 f hf
    show Ok (lb_X0_faultOfFunc_76 N n (nI f) (nI (st f)) (nI (le f)) _ (lf_X0_faultOfFunc_76 N n (nI f) (nI (st f)) (nI (le f)) _ k) σ (nI v)) _
    unfold lb_X0_faultOfFunc_76
    refine ok_if (fun c => ?_) (fun c => ?_)
    · rw [le_nn (by omega) (by omega)] at c
      refine ok_ret ⟨hC, fun _ => ⟨hD0, fun w hw => Or.inr (hJ1 w hw ?_)⟩⟩
      exact of_decide_eq_true (cn_full (p := fun w => decide (σ 10 (st f + w) = 1)) (k := le f) (by omega) w hw)
    · rw [le_nn (by omega) (by omega)] at c
      unfold f_X0_leastWaiting
      rw [ea]
      refine ok_bd (least_ok (σ := σ) (S := st f) (Ln := le f) (by omega) N a ha (by omega)) (fun r σ1 _ hr => ?_)
      obtain ⟨hr1, hr2⟩ := hr
      have hr1 : σ1 = σ := hr1
      subst hr1
      rcases hr2 with ⟨p1, p2⟩ | ⟨w, p1, p2, p3, p4, p5, p6⟩
      · have p1 : r = (-1) := p1
        rw [if_pos p1]
        refine ok_ret ⟨hC, fun _ => ⟨hD0, fun w hw => ?_⟩⟩
        by_cases q : σ1 8 (st f + w) = (-1)
        · exact Or.inl q
        · refine Or.inr (hJ1 w hw ?_)
          by_cases q2 : w < a
          · exact hJ2 w hw q2 q
          · rcases p2 w (by omega) hw with z | z
            · exact absurd z q
            · exact (hpas w hw).resolve_left z
      · have p3 : r = nI w := p3
        subst p3
        rw [if_neg (n1_ne (by omega)), ad_nn, ix_nI (k := st f + w) (by omega), gb_nI (by omega) (by omega), ad_nl w 1]
        obtain ⟨d, hd, hdw⟩ := (hD w p2).resolve_left p4
        obtain ⟨σ2, e2⟩ : ∃ z, z = sg (sg σ1 10 (st f + w) 1) 9 2 (nI (w + 1)) := ⟨_, rfl⟩
        have o8 : ∀ j, σ2 8 j = σ1 8 j := fun j => by rw [e2, sg_c (by decide), sg_c (by decide)]
        have oo : ∀ c j, c ≠ 10 → ¬ (c = 9 ∧ j = 2) → σ2 c j = σ1 c j := by
          intro c j q1 q2
          rw [e2]
          by_cases q : c = 9
          · subst q
            rw [sg_ne (fun z => q2 ⟨rfl, z⟩), sg_c (by decide)]
          · rw [sg_c q, sg_c q1]
        have o10 : ∀ j, σ2 10 j = if j = st f + w then 1 else σ1 10 j := fun j => by rw [e2, sg_c (by decide), sg_if]
        have o9 : σ2 9 2 = nI (w + 1) := by rw [e2]; exact sg_at _ _ _ _
        have hC2 : Ch (st f) (le f) σ0 σ2 := ⟨fun c j q1 q2 q3 => (oo c j q2 q3).trans (hC.1 c j q1 q2 q3), fun j q => (o8 j).trans (hC.2 j q)⟩
        have hp2 : PI σ2 F Wd ar lo st le := ⟨(oo 1 7 (by omega) (by omega)).trans g1, g2, (oo 1 8 (by omega) (by omega)).trans g3, g4, fun f hf => (oo 2 f (by omega) (by omega)).trans (g5 f hf), fun f hf => (oo 3 f (by omega) (by omega)).trans (g6 f hf), fun f hf => (oo 4 f (by omega) (by omega)).trans (g7 f hf), fun f hf => (oo 5 f (by omega) (by omega)).trans (g8 f hf), g9, g10, g11⟩
        have hD2 : DI (st f) (le f) σ2 := fun u hu => by rw [o8]; exact hD u hu
        rw [← e2]
        refine ok_bd (faultOfWord_ok (a := w + 1) hp2 hf p2 hD2 (by omega) o9 hd ((o8 _).trans hdw)) (fun r3 σ3 _ hr3 => ?_)
        obtain ⟨hG, hW, m, hm5, em⟩ := hr3
        have em : r3 = nI m := em
        subst em
        have hC3 := ch_gr hC2 hG
        refine ok_if (fun z => ?_) (fun z => ?_)
        · rw [ad_nl v 1]
          obtain ⟨a3, l3, e3, w3⟩ := hG.2.2 (w + 1) (by omega) o9
          have c10 : ∀ j, σ3 10 j = if j = st f + w then 1 else σ1 10 j := fun j => (hG.1 10 j (by omega) (by omega)).trans (o10 j)
          refine ih (v + 1) σ3 (by omega) (by omega) ⟨gr_PI hG hp2, gr_DI (a := w + 1) (by omega) o9 hG hD2, ⟨a3, by omega, e3, fun u hu hua hne => ?_⟩, fun u hu => ?_, fun u hu h1u => ?_, ?_, ?_⟩ hC3
          · rw [c10]
            by_cases q : u = w
            · rw [q, if_pos rfl]
            · rw [if_neg (by omega)]
              have keep : ¬ σ1 8 (st f + u) = (-1) := by
                rcases w3 u hu with x | ⟨-, -, x⟩
                · exact fun y => hne (x.trans ((o8 _).trans y))
                · omega
              by_cases q2 : u < a
              · exact hJ2 u hu q2 keep
              · rcases p6 u (by omega) (by omega) with x | x
                · exact absurd x keep
                · exact (hpas u hu).resolve_left x
          · rw [c10]
            by_cases q : st f + u = st f + w
            · rw [if_pos q]; exact Or.inr rfl
            · rw [if_neg q]; exact hpas u hu
          · by_cases q : u = w
            · rw [q]; exact hW z
            · rw [c10, if_neg (by omega)] at h1u
              exact gr_WW rfl rfl hu (a := w + 1) (by omega) o9 hG (WW_same (fun j => oo 6 j (by omega) (by omega)) (fun j => oo 7 j (by omega) (by omega)) o8 (hJ1 u hu h1u))
          · exact gr_keep (a := w + 1) (w := 0) (by omega) o9 hG hl0 (by omega) ((o8 _).trans hD0)
          · have hc : cn (fun u => decide (σ3 10 (st f + u) = 1)) (le f) = cn (fun u => decide (σ1 10 (st f + u) = 1)) (le f) + 1 := by
              refine cn_set p2 ?_ ?_ (fun u hu hn => ?_)
              · show decide (σ1 10 (st f + w) = 1) = false
                rw [p5]; decide
              · show decide (σ3 10 (st f + w) = 1) = true
                rw [c10, if_pos rfl]; decide
              · show decide (σ3 10 (st f + u) = 1) = decide (σ1 10 (st f + u) = 1)
                rw [c10, if_neg (by omega)]
            omega
        · refine ok_ret ⟨hC3, fun q => ?_⟩
          have hm0 : m ≠ 0 := fun x => z (by rw [x]; rfl)
          have q : (nI m + 8 * nI f) + 128 * nI w = 0 := q
          rw [ml_ln f 8, ml_ln w 128, ad_nn, ad_nn] at q
          exact absurd q (nI_ne0 (by show 0 < m + 8 * f + 128 * w; omega) (by show m + 8 * f + 128 * w < _; omega))
theorem faultOfFunc_ok {N n : Nat} (hN : 1000 ≤ N) {σ : Sg} {F Wd : Nat} {ar lo st le : Nat → Nat} (h : PI σ F Wd ar lo st le) {f : Nat} (hf : f < F) (hl0 : 0 < le f) :
    Ok (f_X0_faultOfFunc N n σ (nI f)) (fun y => Ch (st f) (le f) σ y.2 ∧ (y.1 = 0 → WF y.2 F ar lo st le f)) := by
  have hp := h
  obtain ⟨g1, g2, g3, g4, g5, g6, g7, g8, g9, g10, g11⟩ := h
  have q9 := g9 f hf
  unfold f_X0_faultOfFunc
  rw [ix_nI (k := f) (by omega), g7 f hf, g8 f hf, gb_nI (by omega) (by omega), gb_nI (by omega) (by omega)]
  obtain ⟨σ1, hW, e⟩ := wipe_ok (N := N) (n := n) (f := nI f) (K := fun σ6 _ => gb (nI (st f)) 300 (lf_X0_faultOfFunc_76 N n (nI f) (nI (st f)) (nI (le f)) (fun σ19 _ => some (0, σ19)) N (sg (sg σ6 8 (ix (nI (st f))) 0) 9 2 0) 0)) (S := st f) (Ln := le f) (σ0 := σ) (by omega) N 0 σ (by omega) (by omega) ⟨fun _ _ _ _ => rfl, fun _ _ => ⟨rfl, rfl⟩, fun w hw => by omega⟩
  rw [show (0 : Int32) = nI 0 from rfl] at e ⊢
  rw [e]
  obtain ⟨w1, w2, w3⟩ := hW
  rw [gb_nI (by omega) (by omega), ix_nI (k := st f) (by omega)]
  obtain ⟨σ2, e2⟩ : ∃ z, z = sg (sg σ1 8 (st f) (nI 0)) 9 2 (nI 0) := ⟨_, rfl⟩
  rw [← e2]
  have o8 : ∀ j, σ2 8 j = if j = st f then nI 0 else σ1 8 j := fun j => by rw [e2, sg_c (by decide), sg_if]
  have oo : ∀ c j, c ≠ 8 → ¬ (c = 9 ∧ j = 2) → σ2 c j = σ1 c j := by
    intro c j q1 q2
    rw [e2]
    by_cases q : c = 9
    · subst q
      rw [sg_ne (fun z => q2 ⟨rfl, z⟩), sg_c (by decide)]
    · rw [sg_c q, sg_c q1]
  have hC : Ch (st f) (le f) σ σ2 := ⟨fun c j q1 q2 q3 => (oo c j q1 q3).trans (w1 c j q1 q2), fun j q => by
    rw [o8, if_neg (by omega)]
    exact (w2 j q).1⟩
  have p10 : ∀ w, w < le f → σ2 10 (st f + w) = 0 := fun w hw => (oo 10 _ (by omega) (by omega)).trans (w3 w hw).2
  refine main_ok hN hf hl0 N 0 σ2 (by omega) (by omega) ⟨ch_PI hC hp, fun w hw => ?_, ⟨0, by omega, by rw [e2]; exact sg_at _ _ _ _, fun w _ q => by omega⟩, fun w hw => Or.inl (p10 w hw), fun w hw q => ?_, ?_, ?_⟩ hC
  · rw [o8]
    by_cases q : st f + w = st f
    · rw [if_pos q]; exact Or.inr ⟨0, by omega, rfl⟩
    · rw [if_neg q]; exact Or.inl (w3 w hw).1
  · rw [p10 w hw] at q
    exact absurd q (by decide)
  · rw [o8, if_pos rfl]
  · have hz : cn (fun w => decide (σ2 10 (st f + w) = 1)) (le f) = cn (fun _ => false) (le f) := cn_eq (fun w hw => by
      show decide (σ2 10 (st f + w) = 1) = false
      rw [p10 w hw]; decide)
    rw [hz]
    generalize le f = z
    induction z with
    | zero => rfl
    | succ z ih => unfold cn; rw [ih]; rfl
