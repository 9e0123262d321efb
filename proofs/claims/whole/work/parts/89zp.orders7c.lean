/-! ===== all orders of seven by their first, further ===== -/
theorem ck7_3 : ck7 3 [3, 0, 1, 2, 4, 5, 6] (some [4, 0, 1, 2, 3, 5, 6]) = true := by decide +kernel
theorem ck7_4 : ck7 4 [4, 0, 1, 2, 3, 5, 6] (some [5, 0, 1, 2, 3, 4, 6]) = true := by decide +kernel
