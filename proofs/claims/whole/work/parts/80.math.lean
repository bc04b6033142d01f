theorem law_math (xs : Nat → Int32) (n : Nat) (hn : n ≤ 2560) : ∃ s', M_L_law xs n s0 = some (1, s') := sorry
