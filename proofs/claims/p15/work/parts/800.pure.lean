theorem gac_ok {β : Type} {a : Nat} {x : Option β} (h : a ≤ 500000) : gac a x = x := by
  unfold gac
  rw [decide_eq_true h]
  rfl
theorem kx_0 : KX (fun _ _ => 0) 2000 := ⟨0, 0, fun _ => 0, fun _ => 0, fun _ => 0, fun _ => 0, ⟨rfl, by omega, rfl, by omega, fun f hf => by omega, fun f hf => by omega, fun f hf => by omega, fun f hf => by omega, fun f hf => by omega, fun f g _ hg => by omega, fun q => by omega⟩, Or.inl rfl, fun q => absurd q (by decide), fun _ => ⟨rfl, rfl⟩, fun q => absurd q (by decide), fun v _ => Or.inr ⟨0, by omega, rfl⟩, fun q => absurd rfl q, by omega, by omega⟩
theorem jx_0 : JX (fun _ _ => 0) := ⟨0, 0, fun _ => 0, fun _ => 0, fun _ => 0, fun _ => 0, ⟨⟨rfl, by omega, rfl, by omega, fun f hf => by omega, fun f hf => by omega, fun f hf => by omega, fun f hf => by omega, fun f hf => by omega, fun f g _ hg => by omega, fun q => by omega⟩, ⟨rfl, by omega, rfl, by omega, fun f hf => by omega, fun f hf => by omega, fun f hf => by omega, fun f hf => by omega, fun f hf => by omega, fun f g _ hg => by omega, fun q => by omega⟩, fun j hj => by omega⟩, rfl, Or.inl rfl, fun q => absurd q (by decide), ⟨⟨rfl, rfl, rfl, rfl, rfl, fun _ _ => rfl⟩, fun _ => ⟨fun r hr => absurd hr (by show ¬ r < 0; omega), fun _ _ _ => rfl⟩⟩, fun _ => ⟨rfl, rfl, rfl, rfl, rfl⟩, ⟨0, by omega, rfl⟩, fun v _ => Or.inr ⟨0, by omega, rfl⟩, fun q => absurd rfl q⟩
section LAWP
variable {N n : Nat} {σ : Sg}
theorem l_look {x : Option (Int32 × Sg)} {K : Sg → Option Int32} (hx : Ok x (fun y => y.2 = σ)) (hk : KX σ n) (hj : JX σ) (f : Sg → Option (Int32 × Sg)) (h : Lk σ (f σ)) (nx : ∀ σ2, KX σ2 n → JX σ2 → Ok (K σ2) (fun y => y = 1)) : Ok (bd x (fun _ σ1 => bd (f σ1) (fun _ σ2 => K σ2))) (fun y => y = 1) := by
  obtain ⟨F, Wd, ar, lo, st, le, hj⟩ := hj
  refine ok_bd hx (fun r σ1 _ h1 => ?_)
  have h1 : σ1 = σ := h1
  subst h1
  exact ok_bd (j_look hk hj (fun _ _ _ => rfl) h) (fun r2 σ2 _ h2 => nx σ2 h2.1 h2.2)
theorem l_both {x : Option (Int32 × Sg)} {K : Sg → Option Int32} (f : Sg → Option (Int32 × Sg)) (hx : Ok x (fun a => Ok (f a.2) (fun z => KX z.2 n ∧ JX z.2))) (nx : ∀ σ2, KX σ2 n → JX σ2 → Ok (K σ2) (fun y => y = 1)) : Ok (bd x (fun _ σ1 => bd (f σ1) (fun _ σ2 => K σ2))) (fun y => y = 1) :=
  ok_bd hx (fun r σ1 _ h1 => ok_bd h1 (fun r2 σ2 _ h2 => nx σ2 h2.1 h2.2))
end LAWP
theorem law_loop {L : Nat} {xs : Nat → Int32} (hL : L ≤ 2048) : ∀ (k c : Nat) (σ : Sg) (n acc : Nat), 4 * c ≤ L → L < 4 * c + 4 * k → KX σ n → JX σ → acc ≤ 2 * n + 6 * c → Ok (ll 1048576 L xs k σ n acc (nI (4 * c))) (fun y => y = 1) := by
  intro k
  induction k with
  | zero => intro c σ n acc q1 q2; omega
  | succ k ih =>
    intro c σ n acc q1 q2 hk hj ha
    show Ok (lb_law 1048576 L xs (ll 1048576 L xs k) σ n acc (nI (4 * c))) _
    unfold lb_law
    refine ok_if (fun _ => ok_ret rfl) (fun c0 => ?_)
    have hc : 4 * c + 4 ≤ L := by
      by_cases hL4 : 4 ≤ L
      · have e : Int32.ofNat L - 4 = nI (L - 4) := sb_nl (k := 4) hL4
        rw [e, lt_nn (by omega) (by omega)] at c0
        omega
      · exfalso
        apply c0
        have h4 : L = 0 ∨ L = 1 ∨ L = 2 ∨ L = 3 := by omega
        have hc0 : c = 0 := by omega
        rcases h4 with z | z | z | z <;> rw [z, hc0] <;> decide
    have hn2 : n ≤ 95200 := by
      obtain ⟨F', Wd', ar', lo', st', le', -, -, -, -, -, -, -, -, q⟩ := id hk
      exact q
    have v1 : nI (4 * c) + 1 = nI (4 * c + 1) := ad_nl _ 1
    have v2 : nI (4 * c) + 2 = nI (4 * c + 2) := ad_nl _ 2
    have v3 : nI (4 * c) + 3 = nI (4 * c + 3) := ad_nl _ 3
    have v4 : nI (4 * c) + 4 = nI (4 * (c + 1)) := (ad_nl _ 4).trans (congrArg nI (show 4 * c + 4 = 4 * (c + 1) by omega))
    have g0 : ∀ y : Option Int32, gb (nI (4 * c)) L y = y := fun y => gb_nI (by omega) (by omega)
    have g1 : ∀ y : Option Int32, gb (nI (4 * c + 1)) L y = y := fun y => gb_nI (by omega) (by omega)
    have g2 : ∀ y : Option Int32, gb (nI (4 * c + 2)) L y = y := fun y => gb_nI (by omega) (by omega)
    have g3 : ∀ y : Option Int32, gb (nI (4 * c + 3)) L y = y := fun y => gb_nI (by omega) (by omega)
    simp only [v1, v2, v3, v4, g0, g1, g2, g3]
    have nx : ∀ σ2, KX σ2 n → JX σ2 → Ok (ll 1048576 L xs k σ2 n acc (nI (4 * (c + 1)))) (fun y => y = 1) := fun σ2 a b => ih (c + 1) σ2 n acc (by omega) (by omega) a b (by omega)
    have nx6 : ∀ σ2, KX σ2 n → JX σ2 → Ok (ll 1048576 L xs k σ2 n (acc + 6) (nI (4 * (c + 1)))) (fun y => y = 1) := fun σ2 a b => ih (c + 1) σ2 n (acc + 6) (by omega) (by omega) a b (by omega)
    obtain ⟨F, Wd, ar, lo, st, le, hjb⟩ := id hj
    have hp : PR σ F Wd ar lo st le := hjb.1.2.1
    have hcode : ¬ σ 59 37 = 0 → ∀ g, g < F → ∃ S z, FCr σ F g S z := fun q => (hjb.2.2.2.2.2.2.2.2 q).2.1
    have p102 : ∀ x : Int32, PR (sg σ 102 (ix 0) x) F Wd ar lo st le := fun x => hr_PR ⟨fun c j _ q => sg_c (by omega), sg_c (by decide), sg_c (by decide)⟩ hp
    have c102 : ∀ x : Int32, ¬ (sg σ 102 (ix 0) x) 59 37 = 0 → ∀ g, g < F → ∃ S z, FCr (sg σ 102 (ix 0) x) F g S z := fun x q g hg => by
      rw [sg_c (by decide)] at q
      obtain ⟨S, z, b⟩ := hcode q g hg
      exact ⟨S, z, fcr_same b (sg_c (by decide)) (sg_c (by decide)) (fun i _ => sg_c (by decide))⟩
    obtain ⟨w, ew⟩ : ∃ w, w = xs (ix (nI (4 * c))) &&& 31 := ⟨_, rfl⟩
    obtain ⟨a1, ea1⟩ : ∃ w, w = xs (ix (nI (4 * c + 1))) := ⟨_, rfl⟩
    obtain ⟨a2, ea2⟩ : ∃ w, w = xs (ix (nI (4 * c + 2))) := ⟨_, rfl⟩
    obtain ⟨a3, ea3⟩ : ∃ w, w = xs (ix (nI (4 * c + 3))) := ⟨_, rfl⟩
    rw [← ew, ← ea1, ← ea2, ← ea3]
    refine ok_if (fun _ => ?_) (fun _ => ?_)
    · exact l_both (fun τ => f_X12_func 1048576 n τ a1 a2) (j_func hk hj a1 a2) nx
    refine ok_if (fun _ => ?_) (fun _ => ?_)
    · exact l_both (fun τ => f_X12_word 1048576 n τ a1 a2) (j_word hk hj a1 a2) nx
    refine ok_if (fun _ => ?_) (fun _ => ?_)
    · exact l_both (fun τ => f_X12_check 1048576 n τ) (j_check (by decide) hk hj) nx
    refine ok_if (fun _ => ?_) (fun _ => ?_)
    · exact l_look (depth_ok (kx_CI hk) a1 a2) hk hj (fun τ => f_X12_depth 1048576 n τ a1 a2) (ok_mono (rdepth_ok hp a1 a2) (fun y hy c j q => by
        have hy : y.2 = sg σ 59 0 0 := hy
        rw [hy]; exact sg_o (by omega))) nx
    refine ok_if (fun _ => ?_) (fun _ => ?_)
    · exact l_both (fun τ => f_X12_clear 1048576 n τ) (j_clear (by decide) hk hj) nx
    refine ok_if (fun _ => ?_) (fun _ => ?_)
    · obtain ⟨r1, σ1, n1, d1, e1, e2, e3, e4⟩ := j_turn (N := 1048576) (by decide) hk hj a1
      rw [e1]
      show Ok (gac (acc + d1) (bd (f_X12_turn 1048576 n1 σ1 a1) (fun r53 σ54 => ll 1048576 L xs k σ54 n1 (acc + d1) (nI (4 * (c + 1)))))) (fun y => y = 1)
      rw [gac_ok (by omega)]
      exact ok_bd e4 (fun r2 σ2 _ h2 => ih (c + 1) σ2 n1 (acc + d1) (by omega) (by omega) h2.1 h2.2 (by omega))
    refine ok_if (fun _ => ?_) (fun _ => ?_)
    · rcases xop_ok (N := 1048576) hk a1 a2 a3 with ⟨r1, e1⟩ | ⟨e1, e2⟩
      · rw [e1]
        show Ok (bd (f_X12_op 1048576 n (sg σ 102 (ix 0) r1) a1 a2 a3) (fun r63 σ64 => ll 1048576 L xs k σ64 n acc (nI (4 * (c + 1))))) (fun y => y = 1)
        exact ok_bd (j_look hk hjb (fun c j q => sg_c q) (rop_lk (p102 r1) (c102 r1) a1 a2 a3)) (fun r2 σ2 _ h2 => nx σ2 h2.1 h2.2)
      · rw [e1, e2]
        show Ok (gac (acc + 6) (bd (f_X12_op 1048576 n σ a1 a2 a3) (fun r63 σ64 => ll 1048576 L xs k σ64 n (acc + 6) (nI (4 * (c + 1)))))) (fun y => y = 1)
        rw [gac_ok (by omega)]
        exact ok_bd (j_look hk hjb (fun _ _ _ => rfl) (rop_lk hp hcode a1 a2 a3)) (fun r2 σ2 _ h2 => nx6 σ2 h2.1 h2.2)
    refine ok_if (fun _ => ?_) (fun _ => ?_)
    · exact l_look (xsize_ok hk a1) hk hj (fun τ => f_X12_size 1048576 n τ a1) (rsize_lk hp a1) nx
    refine ok_if (fun _ => ?_) (fun _ => ?_)
    · exact l_look (xvalue_ok hk a1 a2 a3) hk hj (fun τ => f_X12_value 1048576 n τ a1 a2 a3) (rvalue_lk hp a1 a2 a3) nx
    refine ok_if (fun _ => ?_) (fun _ => ?_)
    · exact l_look (xslots_ok hk a1) hk hj (fun τ => f_X12_slots 1048576 n τ a1) (rslots_lk hp a1) nx
    refine ok_if (fun _ => ?_) (fun _ => ?_)
    · exact l_look (xplaces_ok hk a1) hk hj (fun τ => f_X12_places 1048576 n τ a1) (rplaces_lk hp a1) nx
    refine ok_if (fun _ => ?_) (fun _ => ?_)
    · exact ok_bd (j_cell (N := 1048576) hk hj a1 a2) (fun r1 σ1 _ h1 => ok_bd h1 (fun r2 σ2 _ h2 => nx σ2 h2.2.1 h2.2.2))
    refine ok_if (fun _ => ?_) (fun _ => ?_)
    · exact l_both (fun τ => f_X12_again 1048576 n τ) (j_again (by decide) hk hj) nx
    refine ok_if (fun _ => ?_) (fun _ => ?_)
    · refine ok_bd (a_runStack (N := 1048576) (by decide) hk hj a1) (fun r1 σ1 _ h1 => ok_bd h1 (fun r2 σ2 _ h2 => ?_))
      obtain ⟨b1, b2, b3⟩ := h2
      exact ok_if (fun _ => nx σ2 b2 b3) (fun z => absurd b1 z)
    refine ok_if (fun _ => ?_) (fun _ => ?_)
    · exact l_both (fun τ => f_X12_runRegisters 1048576 n τ a1) (j_runRegisters (by decide) hk hj a1) nx
    refine ok_if (fun _ => ?_) (fun _ => ?_)
    · exact l_look (xlook_ok a1 a2) hk hj (fun τ => f_X12_look 1048576 n τ a1 a2) (rlook_lk a1 a2) nx
    refine ok_if (fun _ => ?_) (fun _ => ?_)
    · rcases xpeek_ok (N := 1048576) (n := n) (σ := σ) a1 a2 with ⟨r1, e1⟩ | ⟨e1, e2⟩
      · rw [e1]
        show Ok (bd (f_X12_peek 1048576 n (sg σ 102 (ix 0) r1) a1 a2) (fun r63 σ64 => ll 1048576 L xs k σ64 n acc (nI (4 * (c + 1))))) (fun y => y = 1)
        exact ok_bd (j_look hk hjb (fun c j q => sg_c q) (rpeek_lk a1 a2)) (fun r2 σ2 _ h2 => nx σ2 h2.1 h2.2)
      · rw [e1, e2]
        show Ok (gac (acc + 6) (bd (f_X12_peek 1048576 n σ a1 a2) (fun r63 σ64 => ll 1048576 L xs k σ64 n (acc + 6) (nI (4 * (c + 1)))))) (fun y => y = 1)
        rw [gac_ok (by omega)]
        exact ok_bd (j_look hk hjb (fun _ _ _ => rfl) (rpeek_lk a1 a2)) (fun r2 σ2 _ h2 => nx6 σ2 h2.1 h2.2)
    refine ok_if (fun _ => ?_) (fun _ => ?_)
    · exact l_look (xcount_ok a1) hk hj (fun τ => f_X12_count 1048576 n τ a1) (rcount_lk a1) nx
    exact nx σ hk hj
theorem ll_ok (L : Nat) (xs : Nat → Int32) (hL : L ≤ 2048) : ll 1048576 L xs 1048576 (fun _ _ => 0) 2000 0 0 = some 1 := by
  obtain ⟨y, e, h⟩ := law_loop (xs := xs) hL 1048576 0 (fun _ _ => 0) 2000 0 (by omega) (by omega) kx_0 jx_0 (by omega)
  have h : y = 1 := h
  rw [h] at e
  exact e
