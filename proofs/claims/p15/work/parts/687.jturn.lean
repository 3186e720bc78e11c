theorem xturn2_ok {N n : Nat} (hN : 100000 ≤ N) {σ : Sg} (h : KX σ n) (x : Int32) : ∃ r σ' n' d, f_X11_turn N n σ x = some (r, σ', n', d) ∧ KX σ' n' ∧ 2 * n + d ≤ 2 * n' ∧ (∀ c j, 58 < c → σ' c j = σ c j) ∧ ((σ' = σ ∧ (σ 1 9 = 0 ∨ x < 3 ∨ ¬ x ≤ 16)) ∨ (¬ σ 1 9 = 0 ∧ ¬ x < 3 ∧ x ≤ 16 ∧ MZ σ' ∧ (∀ c j, c ≤ 8 → σ' c j = σ c j) ∧ ∀ j, σ' 46 j = σ 46 j)) := by
  have h0 := h
  obtain ⟨F, Wd, ar, lo, st, le, hp, h01, hW, hS0, hS, hCO, hT, hn1, hn2⟩ := h
  unfold f_X11_turn
  by_cases c1 : σ 1 9 = 0
  · rw [if_pos c1]; exact ⟨_, σ, n, 0, rfl, h0, by omega, fun _ _ _ => rfl, Or.inl ⟨rfl, Or.inl c1⟩⟩
  · rw [if_neg c1]
    by_cases c2 : x < 3
    · rw [if_pos c2]; exact ⟨_, σ, n, 0, rfl, h0, by omega, fun _ _ _ => rfl, Or.inl ⟨rfl, Or.inr (Or.inl c2)⟩⟩
    · rw [if_neg c2]
      by_cases c3 : x ≤ 16
      · rw [if_pos c3]
        have q19 := h01.resolve_left c1
        obtain ⟨w1, w2, w3⟩ := hW q19
        obtain ⟨R, hR1, hR2, rfl⟩ := regs_n c2 c3
        unfold f_X9_begin
        rw [bd_s]
        obtain ⟨σ1, e1⟩ : ∃ z, z = sg (sg σ 11 7 (nI (R + 2))) 39 2 0 := ⟨_, rfl⟩
        rw [← e1]
        have o1 : ∀ c j, ¬ (c = 11 ∧ j = 7) → c ≠ 39 → σ1 c j = σ c j := fun c j a b => by rw [e1, sg_c b, sg_o (by omega)]
        have hg1 : Pg σ σ1 := fun c j _ b => o1 c j (by omega) (by omega)
        have e11 : σ1 11 7 = nI (R + 2) := by rw [e1, sg_c (by decide)]; exact sg_at _ _ _ _
        have e39 : σ1 39 2 = nI 0 := by rw [e1]; exact sg_at _ _ _ _
        obtain ⟨σ2, n2, d2, t2, l1, l2, l3, l4, l5, l6, l7, l8⟩ := turn_loop (N := N) hN (pg_PI hg1 hp) w2 (fun f hf => pg_WF hg1 (w3 f hf)) (R := R) (n0 := n) hR1 hR2 e11 N 0 σ1 n 0 0 (by omega) (by have := hp.2.1; omega) (fun _ _ _ => rfl) (fun v hv => by rw [o1 28 v (by omega) (by decide)]; exact hCO v hv) e39 (by omega) (by omega) (by omega) hn2 (by omega) (Nat.le_refl _) (fun g hg => by omega)
        rw [show (0 : Int32) = nI 0 from rfl, l1]
        obtain ⟨⟨r3, σ3⟩, e3, b1, b2⟩ := begins_ok (N := N) (n := n2) (by omega) (σ := σ2)
        have b1 : SE0 σ3 := b1
        have b2 : ∀ F, RE σ3 F := b2
        show ∃ r σ' n' d, mv n2 d2 (bd (f_X11_beginMachines N n2 σ2) (fun r9 σ10 => some (σ10 39 2, σ10))) = some (r, σ', n', d) ∧ _
        rw [e3, bd_s]
        have fr : ∀ c j, c ≤ 44 → σ3 c j = σ2 c j := fun c j q => fr_X11_beginMachines (nt_hi (m := 44) (by decide) (by decide) q) e3
        have frh : ∀ c j, 58 < c → σ3 c j = σ2 c j := fun c j q => fr_X11_beginMachines (nt_lo (m := 59) (by decide) (by decide) q) e3
        have hg3 : Pg σ σ3 := fun c j a b => (fr c j (by omega)).trans ((l8 c j (by omega)).trans (hg1 c j a b))
        have e19 : σ3 1 9 = 1 := (hg3 1 9 (by decide) (by decide)).trans q19
        refine ⟨_, σ3, n2, d2, rfl, ⟨F, Wd, ar, lo, st, le, pg_PI hg3 hp, Or.inr e19, fun _ => ⟨w1, w2, fun f hf => pg_WF hg3 (w3 f hf)⟩, fun q => absurd (e19.symm.trans q) (by decide), fun _ => se0_SE b1 _ _ _, fun v hv => by rw [fr 28 v (by decide)]; exact l6 v hv, fun _ => ⟨e19, fun g hg => ?_, b2 F⟩, by omega, l3⟩, l4, fun c j q => (frh c j q).trans ((l8 c j (by omega)).trans (o1 c j (by omega) (by omega))), Or.inr ⟨c1, c2, c3, begin_mz e3, fun c j q => (fr c j (by omega)).trans ((l8 c j (by omega)).trans (o1 c j (by omega) (by omega))), fun j => (fr_X11_beginMachines (nt_mk (by simp <;> omega) (by simp <;> omega)) e3).trans ((l8 46 j (by omega)).trans (o1 46 j (by omega) (by omega)))⟩⟩
        obtain ⟨S, z, f1, -⟩ := l7 g hg
        exact ⟨S, z, fc_eq f1 (fun c j _ b => fr c j (by omega))⟩
      · rw [if_neg c3]; exact ⟨_, σ, n, 0, rfl, h0, by omega, fun _ _ _ => rfl, Or.inl ⟨rfl, Or.inr (Or.inr c3)⟩⟩
theorem j_turn {N n : Nat} (hN : 100000 ≤ N) {σ : Sg} (hk : KX σ n) (hj : JX σ) (x : Int32) : ∃ r σ1 n1 d, f_X11_turn N n σ x = some (r, σ1, n1, d) ∧ 2 * n + d ≤ 2 * n1 ∧ n1 ≤ 95200 ∧ Ok (f_X12_turn N n1 σ1 x) (fun z => KX z.2 n1 ∧ JX z.2) := by
  obtain ⟨F, Wd, ar, lo, st, le, hj⟩ := hj
  obtain ⟨r, σ1, n1, d, e, k1, hd, fr, alt⟩ := xturn2_ok (N := N) hN hk x
  have hn1 : n1 ≤ 95200 := by
    obtain ⟨F', Wd', ar', lo', st', le', -, -, -, -, -, -, -, -, q⟩ := k1
    exact q
  refine ⟨r, σ1, n1, d, e, hd, hn1, j_fin k1 ?_ (fun r' σ' e' c j q => fr_X12_turn (nt_hi (m := 58) (by decide) (by decide) q) e')⟩
  have hm := jx_mid hj fr
  have hm0 := hm
  obtain ⟨hR, h2, h3, h4, h5, h6, h7, h8, h9⟩ := hm
  obtain ⟨w1, w2⟩ := kx_get hk hR.1
  have hW : ¬ σ1 59 10 = 0 → (∀ f, f < F → 0 < le f) ∧ ∀ f, f < F → WF (cs σ1) F ar lo st le f := fun q => by
    have q1 := h3.resolve_left (fun z => q (h2.trans z))
    exact ⟨(w1 q1).2.1, fun f hf => wf_cs hR hf ((w1 q1).2.1 f hf) (h4 q1 f hf) ((w1 q1).2.2 f hf)⟩
  obtain ⟨⟨rb, τ2⟩, eb, hb⟩ := rturn_ok (N := N) (n := n1) hN hR.2.1 hW h8 x
  refine ⟨(rb, τ2), eb, ?_⟩
  show JZ σ1 τ2
  rcases hb with ⟨b1, b2⟩ | ⟨b1, b2, b3, b4, b5, b6⟩
  · have b2 : τ2 = sg σ1 59 0 0 := b2
    rw [b2]
    rcases alt with ⟨a1, -⟩ | ⟨a1, a2, a3, -⟩
    · exact ⟨F, Wd, ar, lo, st, le, jb_cls (jb_thrown hm0 0) (fun c j _ => by rw [a1])⟩
    · rcases b1 with q | q | q
      · exact absurd (h2.symm.trans q) a1
      · exact absurd q a2
      · exact absurd a3 q
  · rcases alt with ⟨-, q | q | q⟩ | ⟨a1, a2, a3, a4, a5, a6⟩
    · exact absurd (h2.trans q) b1
    · exact absurd q b2
    · exact absurd b3 q
    · have b4 : BG τ2 := b4
      have b5 : COr τ2 := b5
      have rf : ∀ c j, (60 ≤ c ∧ c ≤ 67) ∨ c = 88 ∨ (c = 59 ∧ (j = 1 ∨ j = 6 ∨ j = 10)) → τ2 c j = σ1 c j := fun c j q => fr_X12_turn (nt_mk (by simp <;> omega) (by simp <;> omega)) eb
      refine ⟨F, Wd, ar, lo, st, le, jb_begin hm0 (h3.resolve_left a1) a5 a6 a4 ⟨fun c j p q => rf c j (by omega), rf 59 1 (by omega), rf 59 6 (by omega)⟩ (rf 59 10 (by omega)) (fun k _ => rf 88 k (by omega)) b4 b5 (fun q => ?_)⟩
      rcases b6 with z | ⟨-, z⟩
      · exact absurd z q
      · exact z
