/-! THE LAW, on the small machine -/
theorem law_pure (L : Nat) (xs : Nat → Int32) (hL : L ≤ 260) : Ev 40 84 0 [.ref 2, .null, .null, .null, .null, .null, .null, .null, .null, .null] [] (mu0 L xs) (fun v μ' => v = some (.int 1) ∧ μ'.1.1 ≤ 600000 ∧ μ'.1.2.1 ≤ 7302250) := by
  sorry
