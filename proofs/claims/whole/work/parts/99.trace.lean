theorem zz_t (x : Int32) (h : x < 5) (h2 : 2 ≤ x) : x + 3 < 10 := by
  simp only [na_lt, na_le] at *
  rw [na_add] <;> simp at * <;> omega
