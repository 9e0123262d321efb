/-! ===== all orders of seven by their first, the last ===== -/
theorem ck7_5 : ck7 5 [5, 0, 1, 2, 3, 4, 6] (some [6, 0, 1, 2, 3, 4, 5]) = true := by decide +kernel
theorem ck7_6 : ck7 6 [6, 0, 1, 2, 3, 4, 5] none = true := by decide +kernel
