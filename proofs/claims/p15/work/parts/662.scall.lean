theorem pops_loop {N n : Nat} {g q L s A : Nat} {τ1 : Sg} (hq : q < 30) (h93 : τ1 93 0 = nI (q + 1)) (hL : L ≤ 10) (hA : A ≤ 6) (hs : s + A ≤ 12) {K : Sg → Int32 → Option (Int32 × Sg)} {Q : Option (Int32 × Sg) → Prop}
    (hK : ∀ (τ : Sg) (x : Int32), (∀ c j, c ≠ 97 → c ≠ 100 → τ c j = τ1 c j) → (∀ j, j ≠ q → τ 97 j = τ1 97 j) → τ 97 q = nI (L + s) → (∀ i, i < A → τ 100 i = τ1 96 (24 * q + L + s + i)) → Q (K τ x)) :
    ∀ (k m : Nat) (τ : Sg), m ≤ A → m < k → (∀ c j, c ≠ 97 → c ≠ 100 → τ c j = τ1 c j) → (∀ j, j ≠ q → τ 97 j = τ1 97 j) → τ 97 q = nI (L + s + m) → (∀ i, m ≤ i → i < A → τ 100 i = τ1 96 (24 * q + L + s + i)) → Q (lf_X12_callStack_27 N n (nI g) K k τ (nI m - 1)) := by
  intro k
  induction k with
  | zero => intro m τ h1 h2; omega
  | succ k ih =>
    intro m τ h1 h2 hc h97 hq97 h100
    show Q (lb_X12_callStack_27 N n (nI g) K (lf_X12_callStack_27 N n (nI g) K k) τ (nI m - 1))
    unfold lb_X12_callStack_27
    by_cases c : nI m - 1 < 0
    · rw [if_pos c]
      rw [dn_lt (by omega)] at c
      subst c
      exact hK τ _ hc h97 hq97 (fun i hi => h100 i (by omega) hi)
    · rw [if_neg c]
      rw [dn_lt (by omega)] at c
      obtain ⟨v, rfl⟩ : ∃ v, m = v + 1 := ⟨m - 1, by omega⟩
      have e1 : nI (v + 1) - 1 = nI v := (sb_nl (k := 1) (show 1 ≤ v + 1 by omega)).trans (congrArg nI (show v + 1 - 1 = v by omega))
      rw [e1, rpop_eq (q := q) (t := L + s + v) ((hc 93 0 (by decide) (by decide)).trans h93) hq hq97 (by omega), bd_s, gb_nI (show v < 12 by omega) (by decide), ix_nI (k := v) (by omega), dn_eq]
      refine ih v _ (by omega) (by omega) (fun c j a b => (sg_c b).trans ((sg_c a).trans (hc c j a b))) (fun j a => (sg_c (by decide)).trans ((sg_ne a).trans (h97 j a))) ((sg_c (by decide)).trans (sg_at _ _ _ _)) (fun i a b => ?_)
      rw [sg_if]
      by_cases e : i = v
      · rw [if_pos e, e, hc 96 _ (by decide) (by decide), show 24 * q + (L + s + v) = 24 * q + L + s + v by omega]
      · rw [if_neg e, sg_c (by decide)]; exact h100 i (by omega) b
section SREL
variable {N n : Nat} {σ τ1 : Sg} {F Wd : Nat} {ar lo st le : Nat → Nat} {q f s : Nat} {fn bt : Nat → Nat}
theorem call_rel (hN : 1000 ≤ N) (hp : PI σ F Wd ar lo st le) (hr : PR τ1 F Wd ar lo st le) (hX : XS σ τ1) (h3 : σ 45 3 = 0) (h7 : σ 45 7 = nI (q + 1)) (hL : LFr σ τ1 lo q fn bt) (hfn : fn q = f) (hT : TF σ τ1 q (lo f) (bt q) s) (h95 : τ1 95 q = σ 48 q) {g : Nat} (hg : g < F) (hA : ar g ≤ s) :
    Ok2 (f_X4_enter_X8 N n σ (nI g)) (f_X12_callStack N n τ1 (nI g)) (SP lo) := by
  obtain ⟨hfr, t2, t3, t4, t5, t6⟩ := hT
  have hs := hfr.2.1
  obtain ⟨g1, g2, g3, g4, g5, g6, g7, g8, g9, g10, g11⟩ := hp
  have q9 := g9 g hg
  have r5 : τ1 60 g = nI (ar g) := hr.2.2.2.2.1 g hg
  unfold f_X12_callStack
  rw [g_02, i_0, t3, gb_nI (show g < 12 by omega) (by decide), ix_nI (k := g) (by omega), r5]
  by_cases c : q + 1 = 30
  · rw [if_pos (show nI (q + 1) = 30 by rw [c]; rfl)]
    have e0 : f_X12_ends N n τ1 0 4 = some (0, sg (sg τ1 89 0 4) 93 0 0) := ends_eq (m := 0) (by decide) 4
    rw [e0, bd_s]
    unfold f_X4_enter_X8
    rw [h7, if_neg (show ¬ nI (q + 1) < 30 by rw [c]; decide), finish_eq, bd_s]
    exact o2_ret (sp_end hX (by decide))
  · rw [if_neg (show ¬ nI (q + 1) = 30 by rw [show (30 : Int32) = nI 30 from rfl, eq_nn (by omega) (by decide)]; exact c)]
    obtain ⟨σ', ce, c7, c12, c6, c47, c48, c51, c49, c49n, cc⟩ := center_eq (N := N) (n := n) (σ := σ) hN (F := F) (Wd := Wd) (ar := ar) (lo := lo) (st := st) (le := le) ⟨g1, g2, g3, g4, g5, g6, g7, g8, g9, g10, g11⟩ (h := q + 1) (tp := bt q + s) (A := ar g) hg h7 (by omega) t2 (by omega) (by rw [if_neg (by omega)]) (by omega)
    rw [ce]
    refine pops_loop (Q := fun z => Ok2 (some ((0 : Int32), σ')) z (SP lo)) (q := q) (L := lo f) (s := s - ar g) (A := ar g) t4 t3 t5 (by omega) (by omega) (fun τ2 x p1 p2 p3 p4 => ?_) N (ar g) τ1 (Nat.le_refl _) (by omega) (fun _ _ _ _ => rfl) (fun _ _ => rfl) (by rw [hfr.1]; exact congrArg nI (by omega)) (fun i a b => by omega)
    have hr2 : PR τ2 F Wd ar lo st le := pr_same hr (fun j _ => p1 59 j (by decide) (by decide)) (fun c j _ b => p1 c j (by omega) (by omega))
    obtain ⟨τ', re, r93, r92, r94, r95, r97, r96n, r96l, r96u, rc⟩ := enters_eq (N := N) (n := n) hN hr2 (m := 0) (h := q + 1) (g := g) (by decide) hg ((p1 93 0 (by decide) (by decide)).trans t3) (by omega)
    have re : f_X12_enters N n τ2 0 (nI g) = some (0, τ') := re
    rw [Nat.mul_zero, Nat.zero_add] at r94 r95 r97 r96l r96u rc
    rw [re, bd_s]
    have rc2 : ∀ c j, c ≠ 96 → c ≠ 98 → c ≠ 99 → ¬ (c = 93 ∧ j = 0) → ¬ (c = 92 ∧ j = 0) → ¬ ((c = 94 ∨ c = 95 ∨ c = 97) ∧ j = q + 1) → c ≠ 97 → c ≠ 100 → τ' c j = τ1 c j := fun c j a1 a2 a3 a4 a5 a6 a7 a8 => (rc c j a1 a2 a3 a4 a5 a6).trans (p1 c j a7 a8)
    obtain ⟨x1, x2, x3, x4, x5, x6⟩ := hX
    have cc3 : σ' 45 3 = σ 45 3 := cc 45 3 (by decide) (by decide) (by decide) (by decide) (by omega)
    refine o2_ret ⟨⟨?_, ?_, ?_, ?_, ?_, fun k hk => ?_⟩, fun _ => ⟨?_, ?_⟩⟩
    · show τ' 89 0 = σ' 45 3
      rw [rc2 89 0 (by decide) (by decide) (by decide) (by decide) (by decide) (by omega) (by decide) (by decide), cc3]; exact x1
    · show τ' 90 0 = σ' 45 4
      rw [rc2 90 0 (by decide) (by decide) (by decide) (by decide) (by decide) (by omega) (by decide) (by decide), cc 45 4 (by decide) (by decide) (by decide) (by decide) (by omega)]; exact x2
    · show τ' 91 0 = σ' 45 5
      rw [rc2 91 0 (by decide) (by decide) (by decide) (by decide) (by decide) (by omega) (by decide) (by decide), cc 45 5 (by decide) (by decide) (by decide) (by decide) (by omega)]; exact x3
    · show τ' 92 0 = σ' 45 6
      rw [r92, c6, p1 92 0 (by decide) (by decide), x4]
    · show τ' 93 0 = σ' 45 7
      rw [r93, c7]
    · show τ' 88 k = σ' 46 k
      rw [rc2 88 k (by decide) (by decide) (by decide) (by omega) (by omega) (by omega) (by decide) (by decide), cc 46 k (by decide) (by decide) (by decide) (by decide) (by omega)]; exact x6 k hk
    · show XC σ' τ' lo
      obtain ⟨l1, l2⟩ := hL
      have mono := fun r (hr : r < q) => bt_mono (fun r hr => (l2 r hr).1) (q - (r + 1)) (r + 1) (by omega)
      rw [xc_iff (h := q + 2) (fn := fun r => if r = q + 1 then g else fn r) (bt := fun r => if r = q + 1 then bt q + (s - ar g) else bt r) (tp := bt q + (s - ar g)) c7 (by omega) (c12.trans (congrArg nI (by omega))) (by omega) (fun r hr3 => ?_)]
      · intro r hr3
        by_cases e1 : r = q + 1
        · subst e1
          simp only [if_true]
          rw [if_neg (by omega), show bt q + (s - ar g) - (bt q + (s - ar g)) = 0 by omega]
          refine ⟨r94, ?_, r97, by omega, fun k hk => ?_, fun i hi => by omega⟩
          · rw [r95, c48, if_pos rfl]
          · rw [r96n rfl k (by omega), show 10 * (q + 1) + k = (q + 1) * 10 + k by omega, c49n k (by omega)]
            by_cases z : k < ar g
            · rw [if_pos z, if_pos z, p4 k z, show bt q + s - ar g + k = bt q + (s - ar g + k) by omega, show 24 * q + lo f + (s - ar g) + k = 24 * q + lo f + (s - ar g + k) by omega]
              exact hfr.2.2.2 (s - ar g + k) (by omega)
            · rw [if_neg z, if_neg z]
        · simp only [if_neg e1]
          by_cases e2 : r = q
          · subst e2
            rw [if_pos (show r + 1 < r + 2 by omega), if_pos rfl, show bt r + (s - ar g) - bt r = s - ar g by omega, hfn]
            refine ⟨?_, ?_, ?_, by omega, fun k hk => ?_, fun i hi => ?_⟩
            · rw [rc2 94 r (by decide) (by decide) (by decide) (by omega) (by omega) (by omega) (by decide) (by decide), (l1 r (Nat.le_refl _)).2.2.2.2.2, hfn]
            · rw [rc2 95 r (by decide) (by decide) (by decide) (by omega) (by omega) (by omega) (by decide) (by decide), c48, if_neg (by omega)]; exact h95
            · rw [rc 97 r (by decide) (by decide) (by decide) (by omega) (by omega) (by omega)]; exact p3
            · rw [r96l _ (by omega), p1 96 _ (by decide) (by decide), c49 _ (by omega)]; exact hfr.2.2.1 k hk
            · rw [r96l _ (by omega), p1 96 _ (by decide) (by decide), cc 50 _ (by decide) (by decide) (by decide) (by decide) (by omega)]; exact hfr.2.2.2 i (by omega)
          · have hrq : r < q := by omega
            obtain ⟨a1, a2, a3, a4, a5, a6⟩ := l1 r (by omega)
            obtain ⟨b1, b2, b3⟩ := l2 r hrq
            rw [if_pos (by omega), if_neg (by omega)]
            refine ⟨?_, ?_, frm_same b3 a3 ?_ (fun k hk => ?_) (fun k hk => ?_) (fun i hi => ?_)⟩
            · rw [rc2 94 r (by decide) (by decide) (by decide) (by omega) (by omega) (by omega) (by decide) (by decide)]; exact a6
            · rw [rc2 95 r (by decide) (by decide) (by decide) (by omega) (by omega) (by omega) (by decide) (by decide), c48, if_neg (by omega)]; exact b2
            · rw [rc 97 r (by decide) (by decide) (by decide) (by omega) (by omega) (by omega)]; exact p2 r (by omega)
            · rw [r96l _ (by omega)]; exact p1 96 _ (by decide) (by decide)
            · exact c49 _ (by omega)
            · exact cc 50 _ (by decide) (by decide) (by decide) (by decide) (by omega)
      · by_cases e1 : r = q + 1
        · simp only [if_pos e1]
          refine ⟨by rw [c47, if_pos e1], by omega, ?_, by omega⟩
          rw [c51, if_pos e1]; exact congrArg nI (by omega)
        · simp only [if_neg e1]
          obtain ⟨a1, a2, a3, a4, a5, a6⟩ := l1 r (by omega)
          exact ⟨by rw [c47, if_neg e1]; exact a1, a2, by rw [c51, if_neg e1]; exact a4, a5⟩
    · show ¬ σ' 45 7 = 0
      rw [c7]; exact nI_ne0 (by omega) (by omega)
theorem leave_rel {x x' : Int32} (hx : x = x') (hX : XS σ τ1) (h3 : σ 45 3 = 0) (h7 : σ 45 7 = nI (q + 1)) (hq : q < 30) (hL : LFr σ τ1 lo q fn bt) (hdep : ∀ r, r < q → bt (r + 1) - bt r + 1 ≤ 12) :
    Ok2 (f_X4_leave_X8 N n σ x) (f_X12_over N n τ1 0 x') (SP lo) := by
  subst hx
  have h93 : τ1 93 0 = nI (q + 1) := hX.2.2.2.2.1.trans h7
  have e1 : nI (q + 1) - 1 = nI q := (sb_nl (k := 1) (show 1 ≤ q + 1 by omega)).trans (congrArg nI (show q + 1 - 1 = q by omega))
  unfold f_X4_leave_X8 f_X12_over
  simp only [g_02]
  rw [i_0, h7, h93, e1]
  have l1' : ((1 : Int32) < nI (q + 1)) = (1 < q + 1) := lt_ln (k := 1) (by omega) (by decide)
  by_cases c : q = 0
  · subst c
    rw [if_neg (by rw [l1']; omega), if_pos (show nI 0 = 0 from rfl)]
    have e0 : f_X12_ends N n (sg (sg τ1 93 0 (nI 0)) 90 0 x) 0 1 = some (0, sg (sg (sg (sg τ1 93 0 (nI 0)) 90 0 x) 89 0 1) 93 0 0) := ends_eq (m := 0) (by decide) 1
    rw [e0, bd_s, finish_eq, bd_s]
    obtain ⟨x1, x2, x3, x4, x5, x6⟩ := hX
    refine o2_ret ⟨⟨?_, ?_, ?_, ?_, ?_, fun k hk => ?_⟩, fun z => ?_⟩
    · show sg (sg (sg (sg τ1 93 0 (nI 0)) 90 0 x) 89 0 1) 93 0 0 89 0 = sg (sg (sg σ 45 4 x) 45 3 1) 45 7 0 45 3
      rw [sg_c (by decide), sg_at, sg_ne (by decide), sg_at]
    · show sg (sg (sg (sg τ1 93 0 (nI 0)) 90 0 x) 89 0 1) 93 0 0 90 0 = sg (sg (sg σ 45 4 x) 45 3 1) 45 7 0 45 4
      rw [sg_c (by decide), sg_c (by decide), sg_at, sg_ne (by decide), sg_ne (by decide), sg_at]
    · show sg (sg (sg (sg τ1 93 0 (nI 0)) 90 0 x) 89 0 1) 93 0 0 91 0 = sg (sg (sg σ 45 4 x) 45 3 1) 45 7 0 45 5
      rw [sg_c (by decide), sg_c (by decide), sg_c (by decide), sg_c (by decide), sg_ne (by decide), sg_ne (by decide), sg_ne (by decide)]; exact x3
    · show sg (sg (sg (sg τ1 93 0 (nI 0)) 90 0 x) 89 0 1) 93 0 0 92 0 = sg (sg (sg σ 45 4 x) 45 3 1) 45 7 0 45 6
      rw [sg_c (by decide), sg_c (by decide), sg_c (by decide), sg_c (by decide), sg_ne (by decide), sg_ne (by decide), sg_ne (by decide)]; exact x4
    · show sg (sg (sg (sg τ1 93 0 (nI 0)) 90 0 x) 89 0 1) 93 0 0 93 0 = sg (sg (sg σ 45 4 x) 45 3 1) 45 7 0 45 7
      rw [sg_at, sg_at]
    · show sg (sg (sg (sg τ1 93 0 (nI 0)) 90 0 x) 89 0 1) 93 0 0 88 k = sg (sg (sg σ 45 4 x) 45 3 1) 45 7 0 46 k
      rw [sg_c (by decide), sg_c (by decide), sg_c (by decide), sg_c (by decide), sg_c (by decide), sg_c (by decide), sg_c (by decide)]; exact x6 k hk
    · have z : sg (sg (sg σ 45 4 x) 45 3 1) 45 7 0 45 3 = 0 := z
      rw [fin_end] at z
      exact absurd z (by decide)
  · obtain ⟨p, rfl⟩ : ∃ p, q = p + 1 := ⟨q - 1, by omega⟩
    rw [if_pos (by rw [l1']; omega), if_neg (nI_ne0 (by omega) (by omega)), if_pos trivial]
    obtain ⟨l1, l2⟩ := hL
    obtain ⟨a1, a2, a3, a4, a5, a6⟩ := l1 (p + 1) (Nat.le_refl _)
    obtain ⟨c1, c2, c3, c4, c5, c6⟩ := l1 p (by omega)
    obtain ⟨b1, b2, b3⟩ := l2 p (by omega)
    have hd := hdep p (by omega)
    obtain ⟨σa, ea⟩ : ∃ z, z = sg σ 45 7 (nI (p + 1)) := ⟨_, rfl⟩
    rw [← ea]
    unfold f_X8_takeAnswer
    have s7 : σa 45 7 = nI (p + 1) := by rw [ea]; exact sg_at _ _ _ _
    rw [roomq s7, bd_s, ad_nl p 1, gb_nI (show p + OfNat.ofNat 1 < 30 by show p + 1 < 30; omega) (by decide), ix_nI (k := p + OfNat.ofNat 1) (by show p + 1 < _; omega)]
    have s51 : σa 51 (p + OfNat.ofNat 1) = nI (bt (p + 1)) := by rw [ea, sg_c (by decide)]; exact a4
    rw [s51]
    obtain ⟨σb, eb⟩ : ∃ z, z = sg σa 45 12 (nI (bt (p + 1))) := ⟨_, rfl⟩
    obtain ⟨τb, et⟩ : ∃ z, z = sg (sg τ1 93 0 (nI (p + 1))) 101 0 x := ⟨_, rfl⟩
    rw [← eb, ← et]
    have ob : ∀ c j, c ≠ 45 → σb c j = σ c j := fun c j z => by rw [eb, sg_c z, ea, sg_c z]
    have ot : ∀ c j, c ≠ 93 → c ≠ 101 → τb c j = τ1 c j := fun c j z1 z2 => by rw [et, sg_c z2, sg_c z1]
    have hTb : TF σb τb p (lo (fn p)) (bt p) (bt (p + 1) - bt p) := ⟨frm_same b3 c3 (ot 97 p (by decide) (by decide)) (fun k _ => ot 96 _ (by decide) (by decide)) (fun k _ => ob 49 _ (by decide)) (fun i _ => ob 50 _ (by decide)), by rw [eb, sg_at]; exact congrArg nI (by omega), by rw [et, sg_c (by decide)]; exact sg_at _ _ _ _, by omega, c3, c5⟩
    obtain ⟨⟨ra, σ2⟩, ⟨rb, τ2⟩, z1, z2, hT2, hK2⟩ := tf_push (N := N) (n := n) hTb (by omega) (x := x) rfl
    rw [z1, z2, bd_s, bd_s, bd_s]
    refine o2_ret ?_
    · have hT2 : TF σ2 τ2 p (lo (fn p)) (bt p) (bt (p + 1) - bt p + 1) := hT2
      have hK2 : Kq σb σ2 τb τ2 p (bt p) := hK2
      obtain ⟨x1, x2, x3, x4, x5, x6⟩ := hX
      have o45 : ∀ j, j ≠ 7 → j ≠ 12 → σb 45 j = σ 45 j := fun j z1 z2 => by rw [eb, sg_ne z2, ea, sg_ne z1]
      have hXb : XS σb τb := by
        refine ⟨?_, ?_, ?_, ?_, ?_, fun k hk => ?_⟩
        · rw [ot 89 0 (by decide) (by decide), o45 3 (by decide) (by decide)]; exact x1
        · rw [ot 90 0 (by decide) (by decide), o45 4 (by decide) (by decide)]; exact x2
        · rw [ot 91 0 (by decide) (by decide), o45 5 (by decide) (by decide)]; exact x3
        · rw [ot 92 0 (by decide) (by decide), o45 6 (by decide) (by decide)]; exact x4
        · rw [hTb.2.2.1, eb, sg_ne (by decide)]; exact s7.symm
        · rw [ot 88 k (by decide) (by decide), ob 46 k (by decide)]; exact x6 k hk
      have hLb : LFr σb τb lo p fn bt := by
        refine ⟨fun r hr => ?_, fun r hr => ?_⟩
        · obtain ⟨d1, d2, d3, d4, d5, d6⟩ := l1 r (by omega)
          exact ⟨(ob 47 r (by decide)).trans d1, d2, d3, (ob 51 r (by decide)).trans d4, d5, (ot 94 r (by decide) (by decide)).trans d6⟩
        · obtain ⟨d1, d2, d3⟩ := l2 r (by omega)
          exact ⟨d1, ((ot 95 r (by decide) (by decide)).trans d2).trans (ob 48 r (by decide)).symm, frm_same d3 (l1 r (by omega)).2.2.1 (ot 97 r (by decide) (by decide)) (fun k _ => ot 96 _ (by decide) (by decide)) (fun k _ => ob 49 _ (by decide)) (fun i _ => ob 50 _ (by decide))⟩
      have e27 : σ2 45 7 = nI (p + 1) := (hK2.1 45 7 (by decide) (by decide) (by decide)).trans (by rw [eb, sg_ne (by decide)]; exact s7)
      refine ⟨xs_kq hXb hK2, fun _ => ⟨xc_top hLb (kq_w hK2) hT2.1 hT2.2.1 e27 (by omega) ?_, ?_⟩⟩
      · show τ2 95 p = σ2 48 p
        rw [hK2.2.2.2.1 95 p (by decide) (by decide), ot 95 p (by decide) (by decide), hK2.1 48 p (by decide) (by decide) (by omega), ob 48 p (by decide)]; exact b2
      · show ¬ σ2 45 7 = 0
        rw [e27]; exact nI_ne0 (by omega) (by omega)
end SREL
