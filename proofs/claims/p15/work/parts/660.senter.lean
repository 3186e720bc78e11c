/-! a call begins, on both sides -/
theorem open_cont {N n : Nat} {u2 : Int32} {rm na tp : Nat} {K : Sg → Int32 → Option (Int32 × Sg)} {Q : Option (Int32 × Sg) → Prop} (hr : rm < 30) (hn : na ≤ 6) (ht : tp + na ≤ 360) {σ0 : Sg} (h0 : σ0 45 12 = nI tp)
    (hK : ∀ (σ : Sg) (x : Int32), (∀ c j, c ≠ 49 → σ c j = σ0 c j) → (∀ j, j < rm * 10 → σ 49 j = σ0 49 j) → (∀ i, i < 10 → σ 49 (rm * 10 + i) = if i < na then σ0 50 (tp + i) else 0) → Q (K σ x)) :
    ∀ (k v : Nat) (σ : Sg), v ≤ 10 → 10 < v + k → (∀ c j, c ≠ 49 → σ c j = σ0 c j) → (∀ j, j < rm * 10 → σ 49 j = σ0 49 j) → (∀ i, i < v → σ 49 (rm * 10 + i) = if i < na then σ0 50 (tp + i) else 0) → Q (lf_X8_openRoom_38 N n u2 (nI (rm * 10)) (nI na) K k σ (nI v)) := by
  intro k
  induction k with
  | zero => intro v σ h1 h2; omega
  | succ k ih =>
    intro v σ h1 h2 hs hl hc
    show Q (lb_X8_openRoom_38 N n u2 (nI (rm * 10)) (nI na) K (lf_X8_openRoom_38 N n u2 (nI (rm * 10)) (nI na) K k) σ (nI v))
    unfold lb_X8_openRoom_38
    have e10 : ((10 : Int32) ≤ nI v) = (10 ≤ v) := le_ln (k := 10) (by omega) (by decide)
    by_cases c : (10 : Int32) ≤ nI v
    · rw [if_pos c]
      rw [e10] at c
      exact hK σ _ hs hl (fun i hi => hc i (by omega))
    · rw [if_neg c]
      rw [e10] at c
      have nxt : ∀ x : Int32, (x = if v < na then σ0 50 (tp + v) else 0) → Q (lf_X8_openRoom_38 N n u2 (nI (rm * 10)) (nI na) K k (sg σ 49 (rm * 10 + v) x) (nI (v + 1))) := fun x hx => by
        refine ih (v + 1) _ (by omega) (by omega) (fun c j q => (sg_c q).trans (hs c j q)) (fun j q => (sg_ne (by omega)).trans (hl j q)) (fun i hi => ?_)
        rw [sg_if]
        by_cases e : i = v
        · rw [if_pos (by omega), e]; exact hx
        · rw [if_neg (by omega)]; exact hc i (by omega)
      rw [(hs 45 12 (by decide)).trans h0, ad_nn, ad_nn, ix_nI (k := rm * 10 + v) (by omega), ad_nl v 1, gb_nI (k := rm * 10 + v) (by omega) (by omega), gb_nI (k := rm * 10 + v) (by omega) (by omega)]
      by_cases c2 : nI na ≤ nI v
      · rw [if_pos c2]
        rw [le_nn (by omega) (by omega)] at c2
        exact nxt 0 (by rw [if_neg (by omega)])
      · rw [if_neg c2]
        rw [le_nn (by omega) (by omega)] at c2
        rw [gb_nI (k := tp + v) (by omega) (by omega), ix_nI (k := tp + v) (by omega), hs 50 _ (by decide)]
        exact nxt _ (by rw [if_pos (by omega)])
/-- the class's machine behind the beginning of a call -/
def CEp (σ σ' : Sg) (h tp g A : Nat) : Prop := σ' 45 7 = nI (h + 1) ∧ σ' 45 12 = nI (tp - A) ∧ σ' 45 6 = σ 45 6 + 1 ∧ (∀ j, σ' 47 j = if j = h then nI g else σ 47 j) ∧ (∀ j, σ' 48 j = if j = h then nI 0 else σ 48 j) ∧ (∀ j, σ' 51 j = if j = h then nI (tp - A) else σ 51 j) ∧ (∀ j, j < h * 10 → σ' 49 j = σ 49 j) ∧ (∀ i, i < 10 → σ' 49 (h * 10 + i) = if i < A then σ 50 (tp - A + i) else 0) ∧ (∀ c j, c ≠ 47 → c ≠ 48 → c ≠ 49 → c ≠ 51 → ¬ (c = 45 ∧ (j = 6 ∨ j = 7 ∨ j = 12)) → σ' c j = σ c j)
theorem center_eq {N n : Nat} (hN : 1000 ≤ N) {σ : Sg} {F Wd : Nat} {ar lo st le : Nat → Nat} (hp : PI σ F Wd ar lo st le) {h tp g A : Nat} (hg : g < F) (h7 : σ 45 7 = nI h) (h30 : h < 30) (h12 : σ 45 12 = nI tp) (htp : tp ≤ 360) (hA : A = if h = 0 then 0 else ar g) (hAt : A ≤ tp) :
    ∃ σ', f_X4_enter_X8 N n σ (nI g) = some (0, σ') ∧ CEp σ σ' h tp g A := by
  obtain ⟨g1, g2, g3, g4, g5, g6, g7, g8, g9, g10, g11⟩ := hp
  have q9 := g9 g hg
  have hA6 : A ≤ 6 := by rw [hA]; split <;> omega
  have fin : ∀ σ1 : Sg, (∀ c j, c ≠ 49 → σ1 c j = (sg σ 45 12 (nI (tp - A))) c j) → (∀ j, j < h * 10 → σ1 49 j = σ 49 j) → (∀ i, i < 10 → σ1 49 (h * 10 + i) = if i < A then σ 50 (tp - A + i) else 0) →
      ∃ σ', bd (gb (nI h) 30 (some ((0 : Int32), sg σ1 51 (ix (nI h)) (σ1 45 12)))) (fun _ σ3 => gb (σ3 45 7) 30 (gb (σ3 45 7) 30 (some ((0 : Int32), sg (sg (sg (sg σ3 47 (ix (σ3 45 7)) (nI g)) 48 (ix (σ3 45 7)) 0) 45 7 ((σ3 45 7) + 1)) 45 6 ((σ3 45 6) + 1))))) = some (0, σ') ∧ CEp σ σ' h tp g A := by
    intro σ1 hs hl hc
    have e12 : σ1 45 12 = nI (tp - A) := (hs 45 12 (by decide)).trans (sg_at _ _ _ _)
    have e7 : σ1 45 7 = nI h := (hs 45 7 (by decide)).trans ((sg_ne (by decide)).trans h7)
    rw [gb_nI h30 (by decide), bd_s, ix_nI (k := h) (by omega), e12]
    obtain ⟨σ2, e2⟩ : ∃ z, z = sg σ1 51 h (nI (tp - A)) := ⟨_, rfl⟩
    rw [← e2]
    have f7 : σ2 45 7 = nI h := by rw [e2, sg_c (by decide)]; exact e7
    rw [f7, gb_nI h30 (by decide), gb_nI h30 (by decide), ix_nI (k := h) (by omega), ad_nl h 1]
    obtain ⟨σ3, e3⟩ : ∃ z, z = sg (sg (sg (sg σ2 47 h (nI g)) 48 h 0) 45 7 (nI (h + 1))) 45 6 (σ2 45 6 + 1) := ⟨_, rfl⟩
    refine ⟨σ3, by rw [e3], ?_, ?_, ?_, fun j => ?_, fun j => ?_, fun j => ?_, fun j q => ?_, fun i q => ?_, fun c j q1 q2 q3 q4 q5 => ?_⟩
    · rw [e3, sg_ne (by decide)]; exact sg_at _ _ _ _
    · rw [e3, sg_ne (by decide), sg_ne (by decide), sg_c (by decide), sg_c (by decide), e2, sg_c (by decide)]; exact e12
    · rw [e3, sg_at, e2, sg_c (by decide), hs 45 6 (by decide), sg_ne (by decide)]
    · rw [e3, sg_c (by decide), sg_c (by decide), sg_c (by decide), sg_if, e2, sg_c (by decide), hs 47 j (by decide), sg_c (by decide)]
    · rw [e3, sg_c (by decide), sg_c (by decide), sg_if, sg_c (by decide), e2, sg_c (by decide), hs 48 j (by decide), sg_c (by decide)]; rfl
    · rw [e3, sg_c (by decide), sg_c (by decide), sg_c (by decide), sg_c (by decide), e2, sg_if, hs 51 j (by decide), sg_c (by decide)]
    · rw [e3, sg_c (by decide), sg_c (by decide), sg_c (by decide), sg_c (by decide), e2, sg_c (by decide)]; exact hl j q
    · rw [e3, sg_c (by decide), sg_c (by decide), sg_c (by decide), sg_c (by decide), e2, sg_c (by decide)]; exact hc i q
    · rw [e3, sg_o (by omega), sg_o (by omega), sg_c q2, sg_c q1, e2, sg_c q4, hs c j q3, sg_o (by omega)]
  unfold f_X4_enter_X8
  rw [h7, if_pos (show nI h < 30 from (lt_nl (k := 30) (by omega) (by decide)).mpr h30)]
  unfold f_X8_openRoom
  rw [h12, ml_nl h 10, ix_nI (k := g) (by omega), g5 g hg]
  by_cases c : h = 0
  · rw [if_pos (show nI h = 0 by rw [c]; rfl)]
    have hA0 : A = 0 := by rw [hA, if_pos c]
    have e0 : nI tp - 0 = nI (tp - A) := by rw [hA0]; exact sb_nl (k := 0) (Nat.zero_le _)
    rw [e0]
    refine open_cont (Q := fun z => ∃ σ', bd z (fun _ σ3 => gb (σ3 45 7) 30 (gb (σ3 45 7) 30 (some ((0 : Int32), sg (sg (sg (sg σ3 47 (ix (σ3 45 7)) (nI g)) 48 (ix (σ3 45 7)) 0) 45 7 ((σ3 45 7) + 1)) 45 6 ((σ3 45 6) + 1))))) = some (0, σ') ∧ CEp σ σ' h tp g A) (rm := h) (na := 0) (tp := tp - A) h30 (by omega) (by omega) (σ0 := sg σ 45 12 (nI (tp - A))) (sg_at _ _ _ _) (fun σ1 x hs hl hc => fin σ1 hs (fun j q => (hl j q).trans (sg_c (by decide))) (fun i hi => ?_)) N 0 _ (by omega) (by omega) (fun _ _ _ => rfl) (fun _ _ => rfl) (fun i hi => by omega)
    rw [hc i hi, hA0, if_neg (by omega), if_neg (by omega)]
  · rw [if_neg (show ¬ nI h = 0 by rw [show (0 : Int32) = nI 0 from rfl, eq_nn (by omega) (by decide)]; exact c), gb_nI (show g < 12 by omega) (by decide)]
    have hA0 : A = ar g := by rw [hA, if_neg c]
    rw [sb_nn (by omega), ← hA0]
    refine open_cont (Q := fun z => ∃ σ', bd z (fun _ σ3 => gb (σ3 45 7) 30 (gb (σ3 45 7) 30 (some ((0 : Int32), sg (sg (sg (sg σ3 47 (ix (σ3 45 7)) (nI g)) 48 (ix (σ3 45 7)) 0) 45 7 ((σ3 45 7) + 1)) 45 6 ((σ3 45 6) + 1))))) = some (0, σ') ∧ CEp σ σ' h tp g A) (rm := h) (na := A) (tp := tp - A) h30 (by omega) (by omega) (σ0 := sg σ 45 12 (nI (tp - A))) (sg_at _ _ _ _) (fun σ1 x hs hl hc => fin σ1 hs (fun j q => (hl j q).trans (sg_c (by decide))) (fun i hi => ?_)) N 0 _ (by omega) (by omega) (fun _ _ _ => rfl) (fun _ _ => rfl) (fun i hi => by omega)
    rw [hc i hi]
    by_cases q : i < A
    · rw [if_pos q, if_pos q, sg_c (by decide)]
    · rw [if_neg q, if_neg q]
theorem ent49_loop {N n : Nat} {m g c A : Nat} (hm : m < 2) (hg : g < 12) (hc : c < 60) (hA : A ≤ 6) {τ0 : Sg} (h60 : τ0 60 g = nI A) {K : Sg → Int32 → Option (Int32 × Sg)} {Q : Option (Int32 × Sg) → Prop}
    (hK : ∀ (τ : Sg) (x : Int32), (∀ d j, d ≠ 96 → d ≠ 98 → τ d j = τ0 d j) → (∀ j, j < 24 * c → τ 96 j = τ0 96 j) → (m = 0 → ∀ i, i < 24 → τ 96 (24 * c + i) = if i < A then τ0 100 i else 0) → (∀ j, 24 * c + 24 ≤ j → τ 96 j = τ0 96 j) → Q (K τ x)) :
    ∀ (k v : Nat) (τ : Sg), v ≤ 24 → 24 < v + k → (∀ d j, d ≠ 96 → d ≠ 98 → τ d j = τ0 d j) → (∀ j, j < 24 * c → τ 96 j = τ0 96 j) → (m = 0 → ∀ i, i < v → τ 96 (24 * c + i) = if i < A then τ0 100 i else 0) → (∀ j, 24 * c + 24 ≤ j → τ 96 j = τ0 96 j) → Q (lf_X12_enters_49 N n (nI m) (nI g) (nI c) K k τ (nI v)) := by
  intro k
  induction k with
  | zero => intro v τ h1 h2; omega
  | succ k ih =>
    intro v τ h1 h2 hs hl hv hu
    show Q (lb_X12_enters_49 N n (nI m) (nI g) (nI c) K (lf_X12_enters_49 N n (nI m) (nI g) (nI c) K k) τ (nI v))
    unfold lb_X12_enters_49
    have e24 : ((24 : Int32) ≤ nI v) = (24 ≤ v) := le_ln (k := 24) (by omega) (by decide)
    by_cases q : (24 : Int32) ≤ nI v
    · rw [if_pos q]
      rw [e24] at q
      exact hK τ _ hs hl (fun z i hi => hv z i (by omega)) hu
    · rw [if_neg q]
      rw [e24] at q
      have nxt : ∀ x : Int32, (m = 0 → x = if v < A then τ0 100 v else 0) → Q (lf_X12_enters_49 N n (nI m) (nI g) (nI c) K k (sg (sg τ 96 (24 * c + v) x) 98 (24 * c + v) 0) (nI (v + 1))) := fun x hx => by
        refine ih (v + 1) _ (by omega) (by omega) (fun d j a b => (sg_c b).trans ((sg_c a).trans (hs d j a b))) (fun j a => (sg_c (by decide)).trans ((sg_ne (by omega)).trans (hl j a))) (fun z i hi => ?_) (fun j a => (sg_c (by decide)).trans ((sg_ne (by omega)).trans (hu j a)))
        rw [sg_c (by decide), sg_if]
        by_cases e : i = v
        · rw [if_pos (by omega), e]; exact hx z
        · rw [if_neg (by omega)]; exact hv z i (by omega)
      have gi : ∀ y : Option (Int32 × Sg), gb (nI (24 * c + v)) 1440 y = y := fun y => gb_nI (show 24 * c + v < 1440 by omega) (by decide)
      rw [ml_ln c 24, ml_ln m 6, ad_nn, ad_nn, ad_nl v 1]
      have e1 : OfNat.ofNat 24 * c + v = 24 * c + v := rfl
      have e2 : OfNat.ofNat 6 * m + v = 6 * m + v := rfl
      rw [e1, e2]
      simp only [gi]
      rw [ix_nI (k := 24 * c + v) (by omega), gb_nI hg (by decide), ix_nI (k := g) (by omega), (hs 60 g (by decide) (by decide)).trans h60]
      by_cases z : nI m = 0
      · rw [if_pos z]
        have z : m = 0 := (nI_eq (a := m) (b := 0) (by omega) (by decide)).mp z
        by_cases w : nI A ≤ nI v
        · rw [if_pos w]
          rw [le_nn (by omega) (by omega)] at w
          exact nxt 0 (fun _ => by rw [if_neg (by omega)])
        · rw [if_neg w]
          rw [le_nn (by omega) (by omega)] at w
          rw [gb_nI (show 6 * m + v < 12 by omega) (by decide), ix_nI (k := 6 * m + v) (by omega)]
          refine nxt _ (fun _ => ?_)
          rw [if_pos (by omega), hs 100 _ (by decide) (by decide), show 6 * m + v = v by omega]
      · rw [if_neg z]
        exact nxt 0 (fun y => absurd (by rw [y]; rfl) z)
theorem ent121_loop {N n : Nat} {m g c A : Nat} (hm : m < 2) (hg : g < 12) (hc : c < 60) (hA : A ≤ 6) {τ0 : Sg} (h60 : τ0 60 g = nI A) {K : Sg → Int32 → Option (Int32 × Sg)} {Q : Option (Int32 × Sg) → Prop}
    (hK : ∀ (τ : Sg) (x : Int32), (∀ d j, d ≠ 99 → τ d j = τ0 d j) → Q (K τ x)) :
    ∀ (k v : Nat) (τ : Sg), v ≤ 6 → 6 < v + k → (∀ d j, d ≠ 99 → τ d j = τ0 d j) → Q (lf_X12_enters_121 N n (nI m) (nI g) (nI c) K k τ (nI v)) := by
  intro k
  induction k with
  | zero => intro v τ h1 h2; omega
  | succ k ih =>
    intro v τ h1 h2 hs
    show Q (lb_X12_enters_121 N n (nI m) (nI g) (nI c) K (lf_X12_enters_121 N n (nI m) (nI g) (nI c) K k) τ (nI v))
    unfold lb_X12_enters_121
    have e6 : ((6 : Int32) ≤ nI v) = (6 ≤ v) := le_ln (k := 6) (by omega) (by decide)
    by_cases q : (6 : Int32) ≤ nI v
    · rw [if_pos q]
      exact hK τ _ hs
    · rw [if_neg q]
      rw [e6] at q
      rw [gb_nI hg (by decide), ix_nI (k := g) (by omega), (hs 60 g (by decide)).trans h60, ml_ln c 7, ml_ln m 6, ad_nn, ad_nn, ad_nl v 1]
      have e1 : OfNat.ofNat 7 * c + v = 7 * c + v := rfl
      have e2 : OfNat.ofNat 6 * m + v = 6 * m + v := rfl
      rw [e1, e2, gb_nI (show 7 * c + v < 420 by omega) (by decide), gb_nI (show 7 * c + v < 420 by omega) (by decide), gb_nI (show 6 * m + v < 12 by omega) (by decide)]
      have nxt : ∀ x : Int32, Q (lf_X12_enters_121 N n (nI m) (nI g) (nI c) K k (sg τ 99 (ix (nI (7 * c + v))) x) (nI (v + 1))) := fun x => ih (v + 1) _ (by omega) (by omega) (fun d j a => (sg_c a).trans (hs d j a))
      by_cases w : nI A ≤ nI v
      · rw [if_pos w]; exact nxt _
      · rw [if_neg w]; exact nxt _
/-- the reference's machine m behind the beginning of a call -/
def EEp (τ τ' : Sg) (m h cc g : Nat) (ar lo : Nat → Nat) : Prop := τ' 93 m = nI (h + 1) ∧ τ' 92 m = τ 92 m + 1 ∧ τ' 94 cc = nI g ∧ τ' 95 cc = nI 0 ∧ τ' 97 cc = nI (lo g) ∧ (m = 0 → ∀ i, i < 24 → τ' 96 (24 * h + i) = if i < ar g then τ 100 i else 0) ∧ (∀ j, j < 24 * cc → τ' 96 j = τ 96 j) ∧ (∀ j, 24 * cc + 24 ≤ j → τ' 96 j = τ 96 j) ∧ (∀ c j, c ≠ 96 → c ≠ 98 → c ≠ 99 → ¬ (c = 93 ∧ j = m) → ¬ (c = 92 ∧ j = m) → ¬ ((c = 94 ∨ c = 95 ∨ c = 97) ∧ j = cc) → τ' c j = τ c j)
theorem enters_eq {N n : Nat} (hN : 1000 ≤ N) {τ : Sg} {F Wd : Nat} {ar lo st le : Nat → Nat} (hr : PR τ F Wd ar lo st le) {m h g : Nat} (hm : m < 2) (hg : g < F) (h93 : τ 93 m = nI h) (h30 : h < 30) :
    ∃ τ', f_X12_enters N n τ (nI m) (nI g) = some (0, τ') ∧ EEp τ τ' m h (30 * m + h) g ar lo := by
  obtain ⟨r1, r2, r3, r4, r5, r6, r7, r8, r9, -⟩ := hr
  have q9 := r9 g hg
  have gm : ∀ y : Option (Int32 × Sg), gb (nI m) 2 y = y := fun y => gb_nI hm (by decide)
  unfold f_X12_enters
  simp only [gm]
  rw [ix_nI (k := m) (by omega), h93, ml_ln m 30, ad_nn, ad_nl h 1]
  have e1 : OfNat.ofNat 30 * m + h = 30 * m + h := rfl
  rw [e1]
  obtain ⟨c, ec⟩ : ∃ c, c = 30 * m + h := ⟨_, rfl⟩
  rw [← ec]
  have hc : c < 60 := by omega
  rw [gb_nI hc (by decide), gb_nI hc (by decide), ix_nI (k := c) (by omega), ix_nI (k := g) (by omega)]
  obtain ⟨τ1, t1⟩ : ∃ z, z = sg (sg (sg (sg τ 93 m (nI (h + 1))) 92 m (τ 92 m + 1)) 94 c (nI g)) 95 c 0 := ⟨_, rfl⟩
  have o1 : ∀ d j, ¬ (d = 93 ∧ j = m) → ¬ (d = 92 ∧ j = m) → ¬ (d = 94 ∧ j = c) → ¬ (d = 95 ∧ j = c) → τ1 d j = τ d j := fun d j a b e f => by
    rw [t1, sg_o (by omega), sg_o (by omega), sg_o (by omega), sg_o (by omega)]
  have ehd : sg (sg (sg (sg τ 93 m (nI (h + OfNat.ofNat 1))) 92 m (τ 92 m + 1)) 94 c (nI g)) 95 c 0 = τ1 := t1.symm
  rw [ehd]
  refine ent49_loop (Q := fun z => ∃ τ', z = some (0, τ') ∧ EEp τ τ' m h c g ar lo) (A := ar g) hm (show g < 12 by omega) hc (by omega) (τ0 := τ1) ((o1 60 g (by omega) (by omega) (by omega) (by omega)).trans (r5 g hg)) (fun τ2 x s1 s2 s3 s4 => ?_) N 0 τ1 (by omega) (by omega) (fun _ _ _ _ => rfl) (fun _ _ => rfl) (fun _ i hi => by omega) (fun _ _ => rfl)
  refine ent121_loop (Q := fun z => ∃ τ', z = some (0, τ') ∧ EEp τ τ' m h c g ar lo) (A := ar g) hm (show g < 12 by omega) hc (by omega) (τ0 := τ2) ((s1 60 g (by decide) (by decide)).trans ((o1 60 g (by omega) (by omega) (by omega) (by omega)).trans (r5 g hg))) (fun τ3 x3 u1 => ?_) N 0 τ2 (by omega) (by omega) (fun _ _ _ => rfl)
  rw [gb_nI (show g < 12 by omega) (by decide), gb_nI hc (by decide)]
  have k3 : ∀ d j, d ≠ 96 → d ≠ 98 → d ≠ 99 → τ3 d j = τ1 d j := fun d j a b e => (u1 d j e).trans (s1 d j a b)
  have e61 : τ3 61 g = nI (lo g) := (k3 61 g (by decide) (by decide) (by decide)).trans ((o1 61 g (by omega) (by omega) (by omega) (by omega)).trans (r6 g hg))
  rw [e61]
  refine ⟨_, rfl, ?_, ?_, ?_, ?_, sg_at _ _ _ _, fun z i hi => ?_, fun j q => ?_, fun j q => ?_, fun d j a b e f g' i => ?_⟩
  · rw [sg_c (by decide), k3 93 m (by decide) (by decide) (by decide), t1, sg_c (by decide), sg_c (by decide), sg_c (by decide)]; exact sg_at _ _ _ _
  · rw [sg_c (by decide), k3 92 m (by decide) (by decide) (by decide), t1, sg_c (by decide), sg_c (by decide)]; exact sg_at _ _ _ _
  · rw [sg_c (by decide), k3 94 c (by decide) (by decide) (by decide), t1, sg_c (by decide)]; exact sg_at _ _ _ _
  · rw [sg_c (by decide), k3 95 c (by decide) (by decide) (by decide), t1]; exact sg_at _ _ _ _
  · rw [sg_c (by decide), u1 96 _ (by decide), show 24 * h + i = 24 * c + i by omega, s3 z i hi]
    by_cases w : i < ar g
    · rw [if_pos w, if_pos w]; exact o1 100 i (by omega) (by omega) (by omega) (by omega)
    · rw [if_neg w, if_neg w]
  · rw [sg_c (by decide), u1 96 _ (by decide), s2 j q]; exact o1 96 j (by omega) (by omega) (by omega) (by omega)
  · rw [sg_c (by decide), u1 96 _ (by decide), s4 j q]; exact o1 96 j (by omega) (by omega) (by omega) (by omega)
  · rw [sg_o (by omega), k3 d j a b e]; exact o1 d j f g' (by omega) (by omega)
