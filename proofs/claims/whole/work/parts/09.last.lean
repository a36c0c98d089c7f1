theorem zz_try_1 (a b : Int) (h : a < b) : a + 1 ≤ b := by omega
