theorem law_true : ∀ (N : Nat) (xs : Nat → Int32), N ≤ 320 → ∃ (S' : ba_S) (m' : ba_M), f_La_law N xs S0 m0 = some (true, S', m') ∧ nN S' ≤ 600000 ∧ nS S' ≤ 7302250 := sorry
