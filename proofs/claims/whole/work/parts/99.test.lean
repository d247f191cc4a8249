theorem zz_test : (1 : Int32) + 1 = 2 := by decide
theorem zz_test2 (x y : Int32) (h : x < y) : ¬ y ≤ x := by
  intro h2
  rw [Int32.lt_iff_toInt_lt] at h
  rw [Int32.le_iff_toInt_le] at h2
  omega
example (x : Int32) (h : x < 5) : x < 7 := by
  simp only [Int32.lt_iff_toInt_lt] at *
  simp at *
  omega
example : ((-1 : Int32) < 5) = True := by simp
example : ((3 : Int32) = 5) = False := by simp
example : ((3 : Int32) + 4 = 7) = True := by simp
