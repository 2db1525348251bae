/-! ===== the pure run: class and model agree ===== -/
theorem law_pure (L : Nat) (hL : L ≤ 2048) (xs : Nat → Int32) : ∃ n, f_L_law_b18 L xs n (iM, iX) 0 = some () := sorry
