theorem law_pure (A : Nat → Nat) (z L : Nat) (hL : L ≤ 384) (xs : Nat → Int32) : ∃ n, n ≤ 65 ∧ lp_L_law_18 L xs n 0 (S_init A z) := sorry
