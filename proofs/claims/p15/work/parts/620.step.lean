/-- the calls within one another, each at a WORD that can be reached, with as many on its STACK as its DEPTH says -/
def SI (σ : Sg) (F : Nat) (st le : Nat → Nat) (h : Nat) (fn nx bt : Nat → Nat) (tp : Nat) : Prop :=
  σ 45 7 = nI h ∧ h ≤ 30 ∧ σ 45 12 = nI tp ∧ (∀ r, r < h → fn r < F ∧ σ 47 r = nI (fn r) ∧ σ 51 r = nI (bt r) ∧ bt r ≤ 12 * r) ∧
  (∀ r, r + 1 < h → σ 48 r = nI (nx r) ∧ nx r < le (fn r) ∧ bt r ≤ bt (r + 1) ∧ σ 8 (st (fn r) + nx r) = nI (bt (r + 1) - bt r + 1)) ∧
  (0 < h → σ 48 (h - 1) = nI (nx (h - 1)) ∧ nx (h - 1) < le (fn (h - 1)) ∧ bt (h - 1) ≤ tp ∧ σ 8 (st (fn (h - 1)) + nx (h - 1)) = nI (tp - bt (h - 1))) ∧ (h = 0 → tp = 0) ∧ tp ≤ 360
/-- the same while the WORD w of the innermost call, in FUNC f, is done: its next is the one behind w -/
def SJ (σ : Sg) (F : Nat) (st le : Nat → Nat) (h : Nat) (fn nx bt : Nat → Nat) (f w tp : Nat) : Prop :=
  σ 45 7 = nI h ∧ 0 < h ∧ h ≤ 30 ∧ σ 45 12 = nI tp ∧ fn (h - 1) = f ∧ (∀ r, r < h → fn r < F ∧ σ 47 r = nI (fn r) ∧ σ 51 r = nI (bt r) ∧ bt r ≤ 12 * r) ∧
  (∀ r, r + 1 < h → σ 48 r = nI (nx r) ∧ nx r < le (fn r) ∧ bt r ≤ bt (r + 1) ∧ σ 8 (st (fn r) + nx r) = nI (bt (r + 1) - bt r + 1)) ∧
  w < le f ∧ bt (h - 1) ≤ tp ∧ σ 8 (st f + w) = nI (tp - bt (h - 1)) ∧ σ 48 (h - 1) = nI (w + 1) ∧ tp ≤ 360
/-- it goes on in the same call, at w' -/
theorem cont_ok {σ σ' : Sg} {F : Nat} {st le : Nat → Nat} {h : Nat} {fn nx bt : Nat → Nat} {f w tp tp' w' : Nat} (hJ : SJ σ F st le h fn nx bt f w tp) (e47 : ∀ j, σ' 47 j = σ 47 j) (e51 : ∀ j, σ' 51 j = σ 51 j) (e8 : ∀ j, σ' 8 j = σ 8 j) (e48 : ∀ j, j ≠ h - 1 → σ' 48 j = σ 48 j) (e7 : σ' 45 7 = σ 45 7)
    (et : σ' 45 12 = nI tp') (en : σ' 48 (h - 1) = nI w') (hw : w' < le f) (hb : bt (h - 1) ≤ tp') (hd : σ 8 (st f + w') = nI (tp' - bt (h - 1))) (h36 : tp' ≤ 360) : ∃ nx', SI σ' F st le h fn nx' bt tp' := by
  obtain ⟨j1, j2, j3, j4, j5, j6, j7, j8, j9, j10, j11, -⟩ := hJ
  refine ⟨fun r => if r = h - 1 then w' else nx r, e7.trans j1, j3, et, fun r hr => ?_, fun r hr => ?_, fun _ => ?_, fun q => by omega, h36⟩
  · obtain ⟨p1, p2, p3, p4⟩ := j6 r hr
    exact ⟨p1, (e47 r).trans p2, (e51 r).trans p3, p4⟩
  · obtain ⟨p1, p2, p3, p4⟩ := j7 r hr
    have ne : ¬ r = h - 1 := by omega
    simp only [if_neg ne]
    exact ⟨(e48 r ne).trans p1, p2, p3, (e8 _).trans p4⟩
  · simp only [if_true]
    rw [j5]
    exact ⟨en, hw, hb, (e8 _).trans hd⟩
/-- ended, or all in order -/
def SE (F : Nat) (st le : Nat → Nat) (σ : Sg) : Prop := (¬ σ 45 3 = 0) ∨ ∃ h, ∃ fn nx bt : Nat → Nat, ∃ tp, SI σ F st le h fn nx bt tp
theorem leave_ok {N n : Nat} {σ : Sg} {F : Nat} {st le : Nat → Nat} {h : Nat} {fn nx bt : Nat → Nat} {tp : Nat} (j1 : σ 45 7 = nI h) (j2 : 0 < h) (j3 : h ≤ 30) (j4 : σ 45 12 = nI tp) (j6 : ∀ r, r < h → fn r < F ∧ σ 47 r = nI (fn r) ∧ σ 51 r = nI (bt r) ∧ bt r ≤ 12 * r)
    (j7 : ∀ r, r + 1 < h → σ 48 r = nI (nx r) ∧ nx r < le (fn r) ∧ bt r ≤ bt (r + 1) ∧ σ 8 (st (fn r) + nx r) = nI (bt (r + 1) - bt r + 1)) (x : Int32) :
    Ok (f_X4_leave_X8 N n σ x) (fun y => SE F st le y.2) := by
  unfold f_X4_leave_X8
  rw [j1]
  have e1 : ((1 : Int32) < nI h) = (1 < h) := lt_ln (k := 1) (by omega) (by decide)
  refine ok_if (fun c => ?_) (fun c => ?_)
  · rw [e1] at c
    rw [sb_nl (k := 1) (show 1 ≤ h from j2)]
    have s1 : (sg σ 45 7 (nI (h - 1))) 45 7 = nI (h - 1) := sg_at _ _ _ _
    obtain ⟨-, -, b3, b4⟩ := j6 (h - 1) (by omega)
    unfold f_X8_takeAnswer
    rw [show nI (h - OfNat.ofNat 1) = nI (h - 1) from rfl, room_eq s1 (by omega), bd_s, ad_nl (h - 1 - 1) 1, show nI (h - 1 - 1 + OfNat.ofNat 1) = nI (h - 1) from congrArg nI (show h - 1 - 1 + 1 = h - 1 by omega), gb_nI (show h - 1 < 30 by omega) (by decide), ix_nI (k := h - 1) (by omega)]
    rw [show (sg σ 45 7 (nI (h - 1))) 51 (h - 1) = nI (bt (h - 1)) from (sg_c (by decide)).trans b3]
    obtain ⟨q1, q2, q3, q4⟩ := j7 (h - 1 - 1) (by omega)
    rw [show h - 1 - 1 + 1 = h - 1 by omega] at q3 q4
    have inner : Ok (bd (f_X8_push N n (sg (sg σ 45 7 (nI (h - 1))) 45 12 (nI (bt (h - 1)))) x) (fun r5 σ6 => some ((0 : Int32), σ6))) (fun y => SE F st le y.2) := by
      refine ok_bd (push_ok (tp := bt (h - 1)) (sg_at _ _ _ _) (by omega) x) (fun r σ1 e h1 => ok_ret (Or.inr ⟨h - 1, fn, nx, bt, bt (h - 1) + 1, ?_⟩))
      have o : ∀ c j, c ≠ 50 → c ≠ 45 → σ1 c j = σ c j := fun c j z1 z2 => by
        rw [fr_X8_push (c := c) (j := j) (by
          unfold nt
          simp only [List.all_nil, Bool.and_true, List.all_cons]
          cases b1 : Nat.beq c 50 with
          | true => exact absurd (Nat.eq_of_beq_eq_true b1) z1
          | false =>
            cases b2 : Nat.beq c 45 with
            | true => exact absurd (Nat.eq_of_beq_eq_true b2) z2
            | false => rfl) e, sg_c z2, sg_c z2]
      refine ⟨(fr_X8_push rfl e).trans ((sg_ne (by decide)).trans s1), by omega, h1, fun r hr => ?_, fun r hr => ?_, fun _ => ?_, fun z => by omega, by omega⟩
      · obtain ⟨p1, p2, p3, p4⟩ := j6 r (by omega)
        exact ⟨p1, (o 47 r (by decide) (by decide)).trans p2, (o 51 r (by decide) (by decide)).trans p3, p4⟩
      · obtain ⟨p1, p2, p3, p4⟩ := j7 r (by omega)
        exact ⟨(o 48 r (by decide) (by decide)).trans p1, p2, p3, (o 8 _ (by decide) (by decide)).trans p4⟩
      · refine ⟨(o 48 _ (by decide) (by decide)).trans q1, q2, by omega, (o 8 _ (by decide) (by decide)).trans (q4.trans (congrArg nI (by omega)))⟩
    exact ok_bd inner (fun r σ1 _ h1 => ok_ret h1)
  · rw [finish_eq, bd_s]
    exact ok_ret (Or.inl (by
      show ¬ (sg (sg (sg σ 45 4 x) 45 3 1) 45 7 0) 45 3 = 0
      rw [fin_end]; decide))
