/-- class and reference agree on every script: the pure part -/
theorem law_pure (X : Sc) (hL : X.1 ≤ 2560) : ∃ m', fW_law X mu0 = some (1, m') := sorry
