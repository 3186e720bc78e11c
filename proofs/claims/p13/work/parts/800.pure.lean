theorem ll_ok (L : Nat) (xs : Nat → Int32) (hL : L ≤ 2048) : ll 1048576 L xs 1048576 (fun _ _ => 0) 2000 0 0 = some 1 := by
  sorry
