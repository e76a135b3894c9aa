-- 73: the chain of the orders, checked
theorem ch_0 : chB 0 (plM 0 (2 ^ 0 - 1)) = true := by decide +kernel
theorem ch_1 : chB 1 (plM 1 (2 ^ 1 - 1)) = true := by decide +kernel
theorem ch_2 : chB 2 (plM 2 (2 ^ 2 - 1)) = true := by decide +kernel
theorem ch_3 : chB 3 (plM 3 (2 ^ 3 - 1)) = true := by decide +kernel
theorem ch_4 : chB 4 (plM 4 (2 ^ 4 - 1)) = true := by decide +kernel
theorem ch_5 : chB 5 (plM 5 (2 ^ 5 - 1)) = true := by decide +kernel
theorem ch_6 : chB 6 (plM 6 (2 ^ 6 - 1)) = true := by decide +kernel
theorem ch_7 : chB 7 (plM 7 (2 ^ 7 - 1)) = true := by decide +kernel
theorem ch_n (n : Nat) (hn : n ≤ 7) : chB n (plM n (2 ^ n - 1)) = true := by
  rcases (by omega : n = 0 ∨ n = 1 ∨ n = 2 ∨ n = 3 ∨ n = 4 ∨ n = 5 ∨ n = 6 ∨ n = 7) with rfl | rfl | rfl | rfl | rfl | rfl | rfl | rfl
  · exact ch_0
  · exact ch_1
  · exact ch_2
  · exact ch_3
  · exact ch_4
  · exact ch_5
  · exact ch_6
  · exact ch_7
theorem ch_head : ∀ n, n ≤ 7 → (plM n (2 ^ n - 1)).head? = some (List.range n) := by decide +kernel
theorem ch_len : ∀ n, n ≤ 7 → (plM n (2 ^ n - 1)).length ≤ 5040 := by decide +kernel
