/-! ===== all orders of seven by their first, further ===== -/
theorem ck7_1 : ck7 1 [1, 0, 2, 3, 4, 5, 6] (some [2, 0, 1, 3, 4, 5, 6]) = true := by decide +kernel
theorem ck7_2 : ck7 2 [2, 0, 1, 3, 4, 5, 6] (some [3, 0, 1, 2, 4, 5, 6]) = true := by decide +kernel
