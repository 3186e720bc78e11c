theorem begin8_ok {N n : Nat} {σ : Sg} (F : Nat) (st le : Nat → Nat) : Ok (f_X8_begin N n σ) (fun y => SE F st le y.2 ∧ y.2 45 3 = 0) := by
  unfold f_X8_begin f_X4_begin_X8
  rw [bd_s]
  refine ok_ret ⟨Or.inr ⟨0, fun _ => 0, fun _ => 0, fun _ => 0, 0, ?_⟩, ?_⟩
  · refine ⟨?_, by omega, ?_, fun r hr => by omega, fun r hr => by omega, fun q => by omega, fun _ => rfl, by omega⟩
    · rfl
    · rfl
  · rfl
theorem runStack_ok {N n : Nat} (hN : 30000 ≤ N) {σ : Sg} {F Wd : Nat} {ar lo st le : Nat → Nat} (hp : PI σ F Wd ar lo st le) (hW : σ 1 9 = 1 → 0 < F ∧ (∀ f, f < F → 0 < le f) ∧ ∀ f, f < F → WF σ F ar lo st le f) (h01 : σ 1 9 = 0 ∨ σ 1 9 = 1) (hE : SE F st le σ) (x : Int32) :
    Ok (f_X11_runStack N n σ x) (fun y => SE F st le y.2) := by
  unfold f_X11_runStack
  refine ok_if (fun _ => ok_ret hE) (fun c1 => ok_if (fun _ => ok_ret hE) (fun c2 => ?_))
  obtain ⟨w1, w2, w3⟩ := hW (h01.resolve_left c1)
  rcases cs_n x with q | ⟨m, hm, rfl⟩
  · exact absurd (Int32.lt_iff_toInt_lt.mpr (by
      have q1 := Int32.lt_iff_toInt_lt.mp q
      have q2 : (0 : Int32).toInt = 0 := by decide
      have q3 : (1 : Int32).toInt = 1 := by decide
      omega)) c2
  · have e20 : (nI m ≤ 20000) = (m ≤ 20000) := le_nl (k := 20000) (by omega) (by decide)
    refine ok_if (fun c3 => ?_) (fun _ => ok_ret hE)
    rw [e20] at c3
    unfold f_X4_goOn_X8
    exact ok_bd (goOn_ok (by omega) w1 w2 c3 N 0 σ (by omega) (by omega) hp w3 hE) (fun r σ1 _ h1 => ok_ret h1)
