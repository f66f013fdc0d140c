theorem law_pure : ∀ (xs : Nat → Int32) (L : Nat), L ≤ 3072 → ∃ F : Nat, fL_law F xs L F 0 h0 h0 = some 1 := fun xs L hL =>
  ⟨100000, lawS (F := 100000) (L := L) (xs := xs) ⟨by decide, by decide⟩ hL 100000 0 h0 h0 bg_sim (Nat.zero_le _) (by omega)⟩
