/-! the fresh reference is as Rel_new asks -/
theorem tNew_0 : tNew.1 0 2 = 0 ∧ tNew.1 0 24 = 0 ∧ tNew.1 0 10 = 0 ∧ tNew.1 0 25 = -1 ∧ tNew.1 0 26 = -1 ∧ tNew.1 0 29 = 0 ∧ tNew.1 0 31 = 0 ∧ tNew.1 0 39 = 0 ∧ tNew.1 0 34 = 0 := by decide
theorem tNew_2 : ∀ k, k < 26 → tNew.1 2 k = if k = 4 then 6 else if k = 5 then 2 else 0 := by decide
theorem tNew_164 : tNew.1 2 164 = 0 := by decide
theorem tNew_l : ∀ k, k < 164 → 86 ≤ k → tNew.1 2 k = -1 := by decide
theorem tNew_10 : tNew.1 10 0 = 0 ∧ tNew.1 10 1 = 0 := by decide
