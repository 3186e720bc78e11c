/-- the REGISTER CODE of the first v FUNCS stands, within total t -/
def FCs (σ : Sg) (n F v t : Nat) : Prop := ∀ g, g < v → ∃ S z, FC σ n F g S z ∧ S + z ≤ t
theorem turn_loop {N : Nat} (hN : 100000 ≤ N) {σ0 : Sg} {F Wd : Nat} {ar lo st le : Nat → Nat} (hp : PI σ0 F Wd ar lo st le) (hle : ∀ f, f < F → 0 < le f) (hW : ∀ f, f < F → WF σ0 F ar lo st le f) {R n0 : Nat} (hR1 : 1 ≤ R) (hR : R ≤ 14) (h11 : σ0 11 7 = nI (R + 2)) :
    ∀ (k v : Nat) (σ : Sg) (n acc t : Nat), v ≤ F → F < v + k → (∀ c j, (c ≤ 11 ∨ 44 < c) → σ c j = σ0 c j) → CO σ → σ 39 2 = nI t → t ≤ 20 * v + 15 * (if v < F then st v else Wd) → t * 5 ≤ n → 0 < n → n ≤ 95200 → 2 * n0 + acc ≤ 2 * n → n0 ≤ n → FCs σ n F v t →
      ∃ σ' n' d t', lt_X11_turn N k σ n acc (nI v) = some (σ', n', d) ∧ 0 < n' ∧ n' ≤ 95200 ∧ 2 * n0 + d ≤ 2 * n' ∧ n0 ≤ n' ∧ CO σ' ∧ FCs σ' n' F F t' ∧ (∀ c j, (c ≤ 11 ∨ 44 < c) → σ' c j = σ0 c j) := by
  have hp' := hp
  obtain ⟨g1, g2, g3, g4, g5, g6, g7, g8, g9, g10, g11⟩ := hp'
  intro k
  induction k with
  | zero => intro v σ n acc t q1 q2; omega
  | succ k ih =>
    intro v σ n acc t q1 q2 hs hC h39 ht htn hn0 hn hacc hnn hF
    show ∃ σ' n' d t', (if (σ 1 7) ≤ nI v then some (σ, n, acc) else (match f_X9_turnFunc N n σ (nI v) with
      | some o => lt_X11_turn N k o.2.1 o.2.2.1 (acc + o.2.2.2) (nI v + 1)
      | none => none)) = some (σ', n', d) ∧ _
    rw [(hs 1 7 (by omega)).trans g1]
    by_cases c : nI F ≤ nI v
    · rw [if_pos c]
      rw [le_nn (by omega) (by omega)] at c
      obtain rfl : v = F := by omega
      exact ⟨σ, n, acc, t, rfl, hn0, hn, hacc, hnn, hC, hF, hs⟩
    · rw [if_neg c]
      rw [le_nn (by omega) (by omega)] at c
      have hvF : v < F := by omega
      rw [if_pos hvF] at ht
      have hg : Pg σ0 σ := fun c j _ b => hs c j (by omega)
      obtain ⟨r, σ1, n1, d1, t1, e, a1, a2, a3, a4, a5, a6, a7, a8, a9, a10, a11⟩ := turnFunc_ok (N := N) (n := n) hN (pg_PI hg hp) hvF (hle v hvF) (pg_WF hg (hW v hvF)) hC hR1 hR ((hs 11 7 (by omega)).trans h11) h39 ht hn0 hn
      rw [e]
      show ∃ σ' n' d t', lt_X11_turn N k σ1 n1 (acc + d1) (nI v + 1) = some (σ', n', d) ∧ _
      rw [ad_nl v 1]
      have q9 := g9 v hvF
      have hnext : st v + le v ≤ (if v + 1 < F then st (v + 1) else Wd) := by
        by_cases z : v + 1 < F
        · rw [if_pos z]; exact g10 v (v + 1) (by omega) z
        · rw [if_neg z]; omega
      have hz := a4.2.2.2.1
      refine ih (v + 1) σ1 n1 (acc + d1) t1 (by omega) (by omega) (fun c j q => (a11 c j q).trans (hs c j q)) a8 a3 (by omega) (by omega) (by omega) a6 (by omega) (by omega) (fun g hg2 => ?_)
      by_cases eg : g = v
      · rw [eg]; exact ⟨t, t1 - t, a4, by omega⟩
      · obtain ⟨S, z, f1, f2⟩ := hF g (by omega)
        exact ⟨S, z, fc_same f1 (a10 g eg).1 (a10 g eg).2 a5 (fun i hi => a9 i (by omega) (by omega)), by omega⟩
