theorem law_pure : ∀ (xs : Nat → Int32) (L : Nat), L ≤ 3072 → ∃ F : Nat, fL_law F xs L F 0 h0 h0 = some 1 := by
  sorry
