theorem law_pure (L : Nat) (xs : Nat → Int32) (hL : L ≤ 384) : ∃ (n : Nat) (t0 : MS), f_X7_firstRule n = some t0 ∧ f_law n L xs 0 (st0_C t0) st0_X8 = some () := sorry
