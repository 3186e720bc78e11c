theorem dep_le {σ : Sg} {F : Nat} {ar lo st le : Nat → Nat} {f w d : Nat} (hW : WF σ F ar lo st le f) (hw : w < le f) (hd : d < 2147483648) (h8 : σ 8 (st f + w) = nI d) : d ≤ 12 ∧ WW σ F ar lo st le f w := by
  have h := (hW.2 w hw).resolve_left (fun q => n1_ne hd (h8.symm.trans q))
  have h0 := h
  obtain ⟨k, y, e, a1, a2, a3, a4, -⟩ := h
  have : e = d := (nI_eq (by omega) hd).mp (a4.symm.trans h8)
  exact ⟨by omega, h0⟩
/-- the two stack machines stand alike -/
def XR (σ τ : Sg) (lo : Nat → Nat) : Prop := XS σ τ ∧ (σ 45 3 = 0 → XC σ τ lo ∧ (σ 45 7 = 0 → ∀ k, k < 6 → τ 100 k = 0))
theorem one_rel {N n : Nat} (hN : 1000 ≤ N) {σ τ : Sg} {F Wd : Nat} {ar lo st le : Nat → Nat} (hR : Rl σ τ F Wd ar lo st le) (hle : ∀ f, f < F → 0 < le f) (hW : ∀ f, f < F → WF σ F ar lo st le f) {q : Nat} {fn nx bt : Nat → Nat} {tp : Nat} (hS : SI σ F st le (q + 1) fn nx bt tp) (hX : XS σ τ) (hC : XC σ τ lo) (h3 : σ 45 3 = 0) :
    ∃ a b, f_X8_step N n (sg (sg σ 45 5 (σ 45 5 + 1)) 48 q (nI (nx q + 1))) (nI (fn q)) (nI (nx q)) = some a ∧ rS N n τ = some b ∧ SP lo a b ∧ SE F st le a.2 := by
  have hS0 := hS
  obtain ⟨s1, s2, s3, s4, s5, s6, s7, s8⟩ := hS
  obtain ⟨t1, t2, t3, t4⟩ := s6 (by omega)
  rw [show q + 1 - 1 = q by omega] at t1 t2 t3 t4
  obtain ⟨u1, u2, u3, u4⟩ := s4 q (by omega)
  have hp := hR.1
  have hp' := hp
  obtain ⟨g1, g2, g3, g4, g5, g6, g7, g8, g9, g10, g11⟩ := hp'
  have q9 := g9 (fn q) u1
  obtain ⟨hs12, hww⟩ := dep_le (hW (fn q) u1) t2 (by omega) t4
  have hXE : XE σ τ lo (q + 1) fn bt tp := (xc_iff s1 s2 s3 s8 (fun r hr => ⟨(s4 r hr).2.1, by have := (s4 r hr).1; omega, (s4 r hr).2.2.1, (s4 r hr).2.2.2⟩)).mp hC
  obtain ⟨σ1, e1⟩ : ∃ z, z = sg (sg σ 45 5 (σ 45 5 + 1)) 48 q (nI (nx q + 1)) := ⟨_, rfl⟩
  obtain ⟨τ1, e2⟩ : ∃ z, z = sg (sg τ 95 q (nI (nx q + 1))) 91 0 (τ 91 0 + 1) := ⟨_, rfl⟩
  rw [← e1]
  have o1 : ∀ c j, c ≠ 48 → ¬ (c = 45 ∧ j = 5) → σ1 c j = σ c j := fun c j a b => by rw [e1, sg_c a, sg_o (by omega)]
  have o48 : ∀ j, σ1 48 j = if j = q then nI (nx q + 1) else σ 48 j := fun j => by rw [e1, sg_if, sg_c (by decide)]
  have o2 : ∀ c j, c ≠ 95 → ¬ (c = 91 ∧ j = 0) → τ1 c j = τ c j := fun c j a b => by rw [e2, sg_o (by omega), sg_c a]
  have o95 : ∀ j, τ1 95 j = if j = q then nI (nx q + 1) else τ 95 j := fun j => by rw [e2, sg_c (by decide), sg_if]
  have hg1 : Pg σ σ1 := fun c j _ b => o1 c j (by omega) (by omega)
  have hp1 := pg_PI hg1 hp
  have hr1 : PR τ1 F Wd ar lo st le := pr_same hR.2.1 (fun j _ => o2 59 j (by decide) (by omega)) (fun c j _ b => o2 c j (by omega) (by omega))
  have hrow : ∀ j, j < Wd → τ1 64 j = σ1 6 j ∧ τ1 65 j = σ1 7 j := fun j hj => by
    rw [o2 64 j (by decide) (by omega), o2 65 j (by decide) (by omega), o1 6 j (by decide) (by omega), o1 7 j (by decide) (by omega)]
    exact hR.2.2 j hj
  obtain ⟨x1, x2, x3, x4, x5, x6⟩ := hX
  have hX1 : XS σ1 τ1 := by
    refine ⟨?_, ?_, ?_, ?_, ?_, fun k hk => ?_⟩
    · rw [o2 89 0 (by decide) (by omega), o1 45 3 (by decide) (by omega)]; exact x1
    · rw [o2 90 0 (by decide) (by omega), o1 45 4 (by decide) (by omega)]; exact x2
    · rw [e2, sg_at, e1, sg_c (by decide), sg_at, x3]
    · rw [o2 92 0 (by decide) (by omega), o1 45 6 (by decide) (by omega)]; exact x4
    · rw [o2 93 0 (by decide) (by omega), o1 45 7 (by decide) (by omega)]; exact x5
    · rw [o2 88 k (by decide) (by omega), o1 46 k (by decide) (by omega)]; exact x6 k hk
  have hlo : ∀ r, r < q + 1 → lo (fn r) ≤ 10 := fun r hr => by have := g9 (fn r) (s4 r hr).1; omega
  have frs : ∀ r m, r < q + 1 → FRm σ τ r (lo (fn r)) (bt r) m → FRm σ1 τ1 r (lo (fn r)) (bt r) m := fun r m hr h => frm_same h (hlo r hr) (o2 97 r (by decide) (by omega)) (fun k _ => o2 96 _ (by decide) (by omega)) (fun k _ => o1 49 _ (by decide) (by omega)) (fun i _ => o1 50 _ (by decide) (by omega))
  have hL : LFr σ1 τ1 lo q fn bt := by
    refine ⟨fun r hr => ?_, fun r hr => ?_⟩
    · obtain ⟨v1, v2, v3, v4⟩ := s4 r (by omega)
      exact ⟨(o1 47 r (by decide) (by omega)).trans v2, by omega, hlo r (by omega), (o1 51 r (by decide) (by omega)).trans v3, v4, (o2 94 r (by decide) (by omega)).trans (hXE r (by omega)).1⟩
    · obtain ⟨v1, v2, v3⟩ := hXE r (by omega)
      rw [if_pos (by omega)] at v3
      refine ⟨(s5 r (by omega)).2.2.1, ?_, frs r _ (by omega) v3⟩
      rw [o95, o48, if_neg (by omega), if_neg (by omega)]; exact v2
  have hT : TF σ1 τ1 q (lo (fn q)) (bt q) (tp - bt q) := by
    obtain ⟨v1, v2, v3⟩ := hXE q (by omega)
    rw [if_neg (by omega)] at v3
    refine ⟨frs q _ (by omega) v3, ?_, ?_, by omega, hlo q (by omega), u4⟩
    · rw [o1 45 12 (by decide) (by omega), s3]; exact congrArg nI (by omega)
    · rw [o2 93 0 (by decide) (by omega), x5, s1]
  have h95 : τ 95 q = nI (nx q) := ((hXE q (by omega)).2.1).trans t1
  have hww1 := pg_WW hg1 hww
  have hdep : ∀ r, r < q → bt (r + 1) - bt r + 1 ≤ 12 := fun r hr => by
    obtain ⟨v1, v2, v3, v4⟩ := s5 r (by omega)
    have hb := (s4 (r + 1) (by omega)).2.2.2
    exact (dep_le (hW (fn r) (s4 r (by omega)).1) v2 (by omega) v4).1
  obtain ⟨a, b, ea, eb, hsp⟩ := step_rel (N := N) (n := n) hN hp1 hr1 hrow u1 t2 hww1 ((o1 8 _ (by decide) (by omega)).trans t4) hs12 rfl hX1 ((o1 45 3 (by decide) (by omega)).trans h3) ((o1 45 7 (by decide) (by omega)).trans s1) hL hT (by rw [o48, if_pos rfl]) h95 e2 hdep
  have hSJ := si_SJ hS0 (by omega) (σ 45 5 + 1)
  rw [show q + 1 - 1 = q by omega] at hSJ
  obtain ⟨a', ea', hE⟩ := step_ok (N := N) (n := n) hN hp1 hle (fun f hf => pg_WF hg1 (hW f hf)) (by rw [e1]; exact hSJ)
  rw [ea] at ea'
  cases ea'
  exact ⟨a, b, ea, eb, hsp, hE⟩
