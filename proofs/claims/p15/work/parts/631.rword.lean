theorem rword_ok {N n : Nat} {σ : Sg} {F Wd : Nat} {ar lo st le : Nat → Nat} (h : PR σ F Wd ar lo st le) (x y : Int32) : Ok (f_X12_word N n σ x y) (fun z => ∃ Wd', ∃ le' : Nat → Nat, PR z.2 F Wd' ar lo st le') := by
  have hI := pr_thrown h 0
  have ret : ∀ r : Int32, Ok (some (r, sg σ 59 0 0)) (fun z : Int32 × Sg => ∃ Wd', ∃ le' : Nat → Nat, PR z.2 F Wd' ar lo st le') := fun r => ok_ret ⟨Wd, le, hI⟩
  obtain ⟨h1, h2, h3, h4, h5, h6, h7, h8, h9, h10, h11⟩ := h
  unfold f_X12_word
  refine ok_if (fun _ => ret _) (fun c1 => ok_if (fun _ => ret _) (fun c2 => ok_if (fun c3 => ?_) (fun _ => ret _)))
  have hF : 0 < F := Nat.pos_of_ne_zero (fun q => c1 (by rw [h1, q]; rfl))
  have hW : Wd < 300 := by
    have : Wd ≠ 300 := fun q => c2 (by rw [h3, q]; rfl)
    omega
  have e5 := h8 (F - 1) (by omega)
  have q9 := h9 (F - 1) (by omega)
  rw [h1, h3, sb_nl (k := 1) (show 1 ≤ F from hF), gb_nI hW (by decide), gb_nI hW (by decide), gb_nI (show F - 1 < 12 by omega) (by decide), gb_nI (show F - 1 < 12 by omega) (by decide), gb_nI (show F - 1 < 12 by omega) (by decide), ix_nI (k := Wd) (by omega), show ix (nI (F - OfNat.ofNat 1)) = F - 1 from ix_nI (show F - 1 < 2147483648 by omega), e5, ad_nl Wd 1, ad_nl (le (F - 1)) 1]
  refine ok_ret ⟨Wd + 1, fun f => if f = F - 1 then le f + 1 else le f, ?_⟩
  refine ⟨h1, h2, rfl, by omega, h5, h6, h7, fun f hf => ?_, fun f hf => ?_, fun f g hfg hg => ?_, fun _ => ?_⟩
  · show (if f = F - 1 then nI (le (F - 1) + 1) else σ 63 f) = nI (if f = F - 1 then le f + 1 else le f)
    by_cases e : f = F - 1
    · rw [if_pos e, if_pos e, e]
    · rw [if_neg e, if_neg e]; exact h8 f hf
  · have w1 := h9 f hf
    have w2 := h11 hF
    by_cases e : f = F - 1
    · simp only [if_pos e]; rw [e] at w1 ⊢; omega
    · simp only [if_neg e]; omega
  · have ef : ¬ f = F - 1 := by omega
    simp only [if_neg ef]
    exact h10 f g hfg hg
  · have w2 := h11 hF
    simp only [if_true]
    omega
