theorem pure_main : ∀ (xs : Nat → Int32) (L : Nat), L ≤ 3584 → ∃ τ : SS, f_whole xs L = some (1, τ) := fun xs L hL => pure_all xs L hL
