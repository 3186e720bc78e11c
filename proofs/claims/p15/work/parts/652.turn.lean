theorem nt_lo {T : List Nat} {Fs : List (Nat × Nat)} {m c j : Nat} (h1 : ∀ d ∈ T, d < m) (h2 : ∀ p ∈ Fs, p.1 < m) (hc : m ≤ c) : nt T Fs c j = true := by
  unfold nt
  rw [Bool.and_eq_true]
  refine ⟨List.all_eq_true.mpr fun d hd => ?_, List.all_eq_true.mpr fun p hp => ?_⟩
  · have := h1 d hd
    cases hb : Nat.beq c d with
    | false => rfl
    | true => have := Nat.eq_of_beq_eq_true hb; omega
  · have := h2 p hp
    cases hb : Nat.beq c p.1 with
    | false => rfl
    | true => have := Nat.eq_of_beq_eq_true hb; omega
theorem gw_42 {σ : Sg} {n i : Nat} (h : i < n) : gw σ n 42 i = σ 42 i := by
  show cpf (σ 42) n i = σ 42 i
  exact if_pos h
theorem gw_c {σ : Sg} {n c : Nat} (h : c ≠ 42) : gw σ n c = σ c := by
  unfold gw
  cases hb : Nat.beq c 42 with
  | false => rfl
  | true => exact absurd (Nat.eq_of_beq_eq_true hb) h
theorem open_ok {N n : Nat} {σ : Sg} {f t T : Nat} (hf : f < 12) (hT : T ≤ 300) (ht : t ≤ 5000) (hn0 : 0 < n) (hn : n ≤ 95200) (h39 : σ 39 2 = nI t) :
    ∃ σ' n' d, f_X1_open N n σ (nI f) (nI T) = some (0, σ', n', d) ∧ (t + 20 + T * 15) * 5 ≤ n' ∧ n ≤ n' ∧ n' ≤ 95200 ∧ 2 * n + d ≤ 2 * n' ∧ (∀ i, i < n → σ' 42 i = σ 42 i) ∧ σ' 40 f = nI t ∧ σ' 41 f = nI 0 ∧ ∀ c j, c ≠ 42 → ¬ (c = 40 ∧ j = f) → ¬ (c = 41 ∧ j = f) → σ' c j = σ c j := by
  unfold f_X1_open
  rw [h39, ad_nl t 20, ml_nl T 15, ad_nn, ml_nl (t + OfNat.ofNat 20 + T * OfNat.ofNat 15) 5]
  have e0 : (t + OfNat.ofNat 20 + T * OfNat.ofNat 15) * OfNat.ofNat 5 = (t + 20 + T * 15) * 5 := rfl
  rw [e0]
  obtain ⟨M, eM⟩ : ∃ M, M = (t + 20 + T * 15) * 5 := ⟨_, rfl⟩
  rw [← eM]
  have hM : M ≤ 47600 := by omega
  have en : Int32.ofNat n = nI n := rfl
  rw [en, gb_nI hf (by decide), gb_nI hf (by decide), ix_nI (k := f) (by omega), gb_nI hf (by decide), gb_nI hf (by decide)]
  have c40 : ∀ (σ1 : Sg) (c j : Nat), ¬ (c = 40 ∧ j = f) → ¬ (c = 41 ∧ j = f) → sg (sg σ1 40 f (nI t)) 41 f 0 c j = σ1 c j := fun σ1 c j q1 q2 => (sg_o (by omega)).trans (sg_o (by omega))
  have d40 : ∀ σ1 : Sg, sg (sg σ1 40 f (nI t)) 41 f 0 40 f = nI t := fun σ1 => (sg_c (by decide)).trans (sg_at _ _ _ _)
  have d41 : ∀ σ1 : Sg, sg (sg σ1 40 f (nI t)) 41 f 0 41 f = nI 0 := fun σ1 => sg_at _ _ _ _
  by_cases c : nI M ≤ nI n
  · rw [if_pos c]
    rw [le_nn (by omega) (by omega)] at c
    exact ⟨_, n, 0, rfl, c, Nat.le_refl _, hn, by omega, fun i hi => c40 σ 42 i (by omega) (by omega), d40 σ, d41 σ, fun c j q0 q1 q2 => c40 σ c j q1 q2⟩
  · rw [if_neg c]
    rw [le_nn (by omega) (by omega)] at c
    rw [ml_nl n 2]
    have e2 : n * OfNat.ofNat 2 = n * 2 := rfl
    rw [e2]
    obtain ⟨L, eL, hL1, hL2, hL3⟩ : ∃ L, (if nI M < nI (n * 2) then nI (n * 2) else nI M) = nI L ∧ M ≤ L ∧ 2 * n ≤ L ∧ L ≤ 95200 := by
      by_cases q : nI M < nI (n * 2)
      · rw [if_pos q]
        rw [lt_nn (by omega) (by omega)] at q
        exact ⟨n * 2, rfl, by omega, by omega, by omega⟩
      · rw [if_neg q]
        rw [lt_nn (by omega) (by omega)] at q
        exact ⟨M, rfl, by omega, by omega, by omega⟩
    rw [eL, ix_nI (k := L) (by omega)]
    have hg : gcp n (nI L) = true := by
      unfold gcp
      refine decide_eq_true ⟨?_, nI_pos (by omega), ?_, ?_, by omega, ?_⟩
      · rw [nI_clamp (show L < 2147483648 by omega)]; omega
      · rw [en, eq_nn (by omega) (by omega)]; omega
      · rw [nI_clamp (show L < 2147483648 by omega)]; omega
      · rw [nI_clamp (show L < 2147483648 by omega)]; omega
    rw [hg]
    have e39 : (gw σ n) 39 2 = nI t := by rw [gw_c (by decide)]; exact h39
    rw [e39]
    refine ⟨_, L, L, rfl, by omega, by omega, hL3, by omega, fun i hi => (c40 _ 42 i (by omega) (by omega)).trans (gw_42 hi), d40 _, d41 _, fun c j q0 q1 q2 => (c40 _ c j q1 q2).trans ?_⟩
    rw [gw_c q0]
/-- what turning one FUNC needs of the class's rows besides the program, and keeps -/
theorem turnFunc_ok {N n : Nat} (hN : 100000 ≤ N) {σ : Sg} {F Wd : Nat} {ar lo st le : Nat → Nat} (hp : PI σ F Wd ar lo st le) {f t R : Nat} (hf : f < F) (hl : 0 < le f) (hW : WF σ F ar lo st le f) (hC : CO σ) (hR1 : 1 ≤ R) (hR : R ≤ 14) (h11 : σ 11 7 = nI (R + 2)) (h39 : σ 39 2 = nI t) (ht : t ≤ 20 * f + 15 * st f) (hn0 : 0 < n) (hn : n ≤ 95200) :
    ∃ r σ' n' d t', f_X9_turnFunc N n σ (nI f) = some (r, σ', n', d) ∧ t ≤ t' ∧ t' ≤ t + 20 + 15 * le f ∧ σ' 39 2 = nI t' ∧ FC σ' n' F f t (t' - t) ∧ n ≤ n' ∧ n' ≤ 95200 ∧ 2 * n + d ≤ 2 * n' ∧ CO σ' ∧ (∀ i, i < t * 5 → i < n → σ' 42 i = σ 42 i) ∧ (∀ g, g ≠ f → σ' 40 g = σ 40 g ∧ σ' 41 g = σ 41 g) ∧ (∀ c j, (c ≤ 11 ∨ 44 < c) → σ' c j = σ c j) := by
  have hp' := hp
  obtain ⟨g1, g2, g3, g4, g5, g6, g7, g8, g9, g10, g11⟩ := hp'
  have q9 := g9 f hf
  unfold f_X9_turnFunc
  obtain ⟨⟨r1, σ1⟩, e1, T1, hT1, L1⟩ := build_ok (N := N) (n := n) (by omega) hp hf hl hW
  have L1 : PL σ1 F T1 := L1
  rw [e1, bd_s]
  have k1 : ∀ c j, (c ≤ 12 ∨ 26 < c) → σ1 c j = σ c j := fun c j q => by
    rcases q with q | q
    · exact fr_X5_build (nt_hi (m := 12) (by decide) (by decide) q) e1
    · exact fr_X5_build (nt_lo (m := 27) (by decide) (by decide) q) e1
  have C1 : CO σ1 := fun v hv => by rw [k1 28 v (by omega)]; exact hC v hv
  obtain ⟨⟨r2, σ2⟩, e2, L2, C2⟩ := forward_ok (N := N) (n := n) (by omega) L1 C1
  have L2 : PL σ2 F T1 := L2
  have C2 : CO σ2 := C2
  rw [e2, bd_s]
  have k2 : ∀ c j, (c ≤ 12 ∨ 28 < c) → σ2 c j = σ c j := fun c j q => by
    refine Eq.trans ?_ (k1 c j (by omega))
    rcases q with q | q
    · exact fr_X5_forward (nt_hi (m := 12) (by decide) (by decide) q) e2
    · exact fr_X5_forward (nt_lo (m := 29) (by decide) (by decide) q) e2
  obtain ⟨⟨r3, σ3⟩, e3, T, hT, L3⟩ := leaveOut_ok (N := N) (n := n) hN L2
  have L3 : PL σ3 F T := L3
  rw [e3, bd_s]
  have k3 : ∀ c j, (c ≤ 12 ∨ 31 < c) → σ3 c j = σ c j := fun c j q => by
    refine Eq.trans ?_ (k2 c j (by omega))
    rcases q with q | q
    · exact fr_X9_leaveOut (nt_hi (m := 12) (by decide) (by decide) q) e3
    · exact fr_X9_leaveOut (nt_lo (m := 32) (by decide) (by decide) q) e3
  have C3 : CO σ3 := fun v hv => by rw [fr_X9_leaveOut (c := 28) (j := v) rfl e3]; exact C2 v hv
  have hT300 := L3.2.2.1
  rw [gb_nI (show f < 12 by omega) (by decide), ix_nI (k := f) (by omega), (k3 11 7 (by omega)).trans h11]
  have e22 : nI (R + 2) - 2 = nI R := (sb_nl (k := 2) (show 2 ≤ R + 2 by omega)).trans (congrArg nI (show R + 2 - 2 = R by omega))
  rw [e22]
  obtain ⟨σ4, e4⟩ : ∃ z, z = sg σ3 12 f (σ3 13 6) := ⟨_, rfl⟩
  rw [← e4]
  have o4 : ∀ c j, c ≠ 12 → σ4 c j = σ3 c j := fun c j q => by rw [e4]; exact sg_c q
  have L4 : PL σ4 F T := pl_eq L3 (fun c j q _ => o4 c j (by omega))
  obtain ⟨⟨r5, σ5⟩, e5, H5⟩ := give_ok (N := N) (n := n) (R := R) (by omega) L4 (show f < 12 by omega) hR
  have H5 : ∀ p w, p < T → w < 22 → Nm σ4 p w → HM σ5 f R w := H5
  rw [e5, bd_s]
  have k5 : ∀ c j, (c ≤ 32 ∨ 38 < c) → σ5 c j = σ4 c j := fun c j q => by
    rcases q with q | q
    · exact fr_X2_give (nt_hi (m := 32) (by decide) (by decide) q) e5
    · exact fr_X2_give (nt_lo (m := 39) (by decide) (by decide) q) e5
  have L5 : PL σ5 F T := pl_eq L4 (fun c j _ q => k5 c j (by omega))
  have k5s : ∀ c j, (c ≤ 11 ∨ 38 < c) → σ5 c j = σ c j := fun c j q => ((k5 c j (by omega)).trans (o4 c j (by omega))).trans (k3 c j (by omega))
  rw [(k5s 11 7 (by omega)).trans h11]
  unfold f_X10_begin
  have e23 : nI (R + 2) - 1 = nI (R + 1) := (sb_nl (k := 1) (show 1 ≤ R + 2 by omega)).trans (congrArg nI (show R + 2 - 1 = R + 1 by omega))
  rw [e22, e23, L5.1]
  obtain ⟨σ6, e6⟩ : ∃ z, z = sg (sg (sg σ5 43 4 (nI f)) 43 5 (nI R)) 43 6 (nI (R + 1)) := ⟨_, rfl⟩
  rw [← e6]
  have o6 : ∀ c j, c ≠ 43 → σ6 c j = σ5 c j := fun c j q => by rw [e6, sg_c q, sg_c q, sg_c q]
  obtain ⟨σ7, n', d, e7, p1, p2, p3, p4, p5, p6, p7, p8⟩ := open_ok (N := N) (n := n) (σ := σ6) (f := f) (t := t) (T := T) (by omega) hT300 (by omega) hn0 hn ((o6 39 2 (by decide)).trans ((k5s 39 2 (by omega)).trans h39))
  have a4 : σ6 43 4 = nI f := by rw [e6, sg_ne (by decide), sg_ne (by decide)]; exact sg_at _ _ _ _
  have a5 : σ6 43 5 = nI R := by rw [e6, sg_ne (by decide)]; exact sg_at _ _ _ _
  have a6 : σ6 43 6 = nI (R + 1) := by rw [e6]; exact sg_at _ _ _ _
  have k7 : ∀ c j, c ≤ 38 → σ7 c j = σ5 c j := fun c j q => (p8 c j (by omega) (by omega) (by omega)).trans (o6 c j (by omega))
  have L7 : PL σ7 F T := pl_eq L5 (fun c j _ q => k7 c j (by omega))
  have H7 : Hh σ7 f R T := fun p w hp hw hn => by
    have h1 : HM σ5 f R w := H5 p w hp hw (by
      unfold Nm at hn ⊢
      rw [k7 30 p (by decide), k7 18 p (by decide), k7 17 p (by decide), k5 30 p (by omega), k5 18 p (by omega), k5 17 p (by omega)] at hn
      rcases hn with q | ⟨c, i, x1, x2, x3, x4⟩ | q
      · exact Or.inl q
      · exact Or.inr (Or.inl ⟨c, i, x1, x2, x3, ((k7 19 _ (by decide)).trans (k5 19 _ (by omega))).symm.trans x4⟩)
      · exact Or.inr (Or.inr q))
    unfold HM at h1 ⊢
    rw [k7 36 _ (by decide), k7 35 _ (by decide)]
    exact h1
  have w7 : WT σ7 σ7 f F T t t R := ⟨(p8 43 4 (by decide) (by omega) (by omega)).trans a4, (p8 43 5 (by decide) (by omega) (by omega)).trans a5, (p8 43 6 (by decide) (by omega) (by omega)).trans a6, ((p8 39 2 (by decide) (by omega) (by omega)).trans (o6 39 2 (by decide))).trans ((k5s 39 2 (by omega)).trans h39), by rw [Nat.sub_self]; exact p7, Nat.le_refl _, fun j q1 q2 => by omega, fun _ _ => rfl, fun _ _ _ _ _ _ => rfl⟩
  have g3' : ∀ c, c ≤ 8 → ∀ j, σ7 c j = σ c j := fun c q j => (k7 c j (by omega)).trans (k5s c j (by omega))
  obtain ⟨⟨r8, σ8⟩, e8, -, t8, b8, c8, w8⟩ := entry_loop (N := N) (n := n') (σ0 := σ7) (f := f) (F := F) (S := t) (t := t) (R := R) (G := T) (A := ar f) (L := lo f) (x := σ7 30 0) (by omega) (by omega) hR ((g3' 3 (by decide) f).trans (g6 f hf)) (by omega) ((g3' 2 (by decide) f).trans (g5 f hf)) (by omega) (fun v hv hb => H7 0 v L7.2.1 hv (Or.inl hb)) (by omega) N 0 σ7 t (by omega) (by omega) (by omega) (by omega) w7
  have w8 : WT σ7 σ8 f F T t t8 R := w8
  obtain ⟨⟨r9, σ9⟩, e9, t9, x1, x2, x3, x4, x5, x6⟩ := writePlaces_ok (N := N) (n := n') hN (show f < 12 by omega) (by omega) hR L7 H7 (show t8 ≤ 10000 by omega) (show (t8 + 15 * T) * 5 ≤ n' by omega) p6 w8
  have x3 : σ9 39 2 = nI t9 := x3
  have x5 : ∀ i, i < t * 5 → σ9 42 i = σ7 42 i := x5
  have k8 : ∀ c j, c ≠ 41 → c ≠ 42 → ¬ (c = 39 ∧ j = 2) → σ8 c j = σ7 c j := fun c j q1 q2 q3 => fr_X10_writeEntry (r := r8) (by
    unfold nt
    simp only [List.all_nil, Bool.and_true, List.all_cons]
    cases b1 : Nat.beq c 42 with
    | true => exact absurd (Nat.eq_of_beq_eq_true b1) q2
    | false =>
      cases b2 : Nat.beq c 41 with
      | true => exact absurd (Nat.eq_of_beq_eq_true b2) q1
      | false =>
        cases b3 : Nat.beq c 39 with
        | false => rfl
        | true =>
          cases b4 : Nat.beq j 2 with
          | false => rfl
          | true => exact absurd ⟨Nat.eq_of_beq_eq_true b3, Nat.eq_of_beq_eq_true b4⟩ q3) e8
  have k9 : ∀ c j, (c ≤ 38 ∨ 44 < c ∨ c = 40) → σ9 c j = σ7 c j := fun c j q => by
    refine Eq.trans ?_ (k8 c j (by omega) (by omega) (by omega))
    rcases q with q | q | q
    · exact fr_X10_writePlaces (nt_hi (m := 38) (by decide) (by decide) q) e9
    · exact fr_X10_writePlaces (nt_lo (m := 45) (by decide) (by decide) q) e9
    · subst q; exact fr_X10_writePlaces rfl e9
  refine ⟨0, σ9, n', d, t9, ?_, x2, by omega, x3, x4, p2, p3, p4, fun v hv => ?_, fun i hi hi2 => ?_, fun g hg => ⟨?_, ?_⟩, fun c j q => ?_⟩
  · rw [e7]
    show mv n' d (gb 0 300 (bd (f_X10_writeEntry N n' σ7 (σ7 30 (ix 0))) _)) = _
    rw [show gb (0 : Int32) 300 = fun (y : Option (Int32 × Sg)) => y from funext fun y => gb_nI (k := 0) (by decide) (by decide)]
    have e8' : f_X10_writeEntry N n' σ7 (σ7 30 (ix 0)) = some (r8, σ8) := e8
    dsimp only
    rw [e8', bd_s, e9, bd_s]
    rfl
  · rw [k9 28 v (by omega), k7 28 v (by omega), k5 28 v (by omega), o4 28 v (by decide)]
    exact C3 v hv
  · rw [x5 i hi, p5 i hi2, o6 42 i (by decide), k5s 42 i (by omega)]
  · rw [k9 40 g (by omega), p8 40 g (by decide) (by omega) (by omega), o6 40 g (by decide), k5s 40 g (by omega)]
  · rw [show σ9 41 g = σ7 41 g from x6 g hg, p8 41 g (by decide) (by omega) (by omega), o6 41 g (by decide), k5s 41 g (by omega)]
  · rw [k9 c j (by omega), p8 c j (by omega) (by omega) (by omega), o6 c j (by omega), k5s c j (by omega)]
