/-! Numbers. -/
theorem na_add {x y : Int32} (h1 : -2147483648 ≤ x.toInt + y.toInt) (h2 : x.toInt + y.toInt < 2147483648) : (x + y).toInt = x.toInt + y.toInt := by
  rw [Int32.toInt_add, Int.bmod_eq_of_le (by omega) (by omega)]
theorem na_sub {x y : Int32} (h1 : -2147483648 ≤ x.toInt - y.toInt) (h2 : x.toInt - y.toInt < 2147483648) : (x - y).toInt = x.toInt - y.toInt := by
  rw [Int32.toInt_sub, Int.bmod_eq_of_le (by omega) (by omega)]
theorem na_mul {x y : Int32} (h1 : -2147483648 ≤ x.toInt * y.toInt) (h2 : x.toInt * y.toInt < 2147483648) : (x * y).toInt = x.toInt * y.toInt := by
  rw [Int32.toInt_mul, Int.bmod_eq_of_le (by omega) (by omega)]
theorem na_neg {x : Int32} (h : -2147483648 < x.toInt) : (-x).toInt = -x.toInt := by
  have := Int32.toInt_lt x
  rw [Int32.toInt_neg, Int.bmod_eq_of_le (by omega) (by omega)]
theorem na_lo (x : Int32) : -2147483648 ≤ x.toInt := Int32.le_toInt x
theorem na_hi (x : Int32) : x.toInt < 2147483648 := Int32.toInt_lt x
theorem nb_add {x y : Int64} (h1 : -9223372036854775808 ≤ x.toInt + y.toInt) (h2 : x.toInt + y.toInt < 9223372036854775808) : (x + y).toInt = x.toInt + y.toInt := by
  rw [Int64.toInt_add, Int.bmod_eq_of_le (by omega) (by omega)]
theorem nb_sub {x y : Int64} (h1 : -9223372036854775808 ≤ x.toInt - y.toInt) (h2 : x.toInt - y.toInt < 9223372036854775808) : (x - y).toInt = x.toInt - y.toInt := by
  rw [Int64.toInt_sub, Int.bmod_eq_of_le (by omega) (by omega)]
theorem nb_mul {x y : Int64} (h1 : -9223372036854775808 ≤ x.toInt * y.toInt) (h2 : x.toInt * y.toInt < 9223372036854775808) : (x * y).toInt = x.toInt * y.toInt := by
  rw [Int64.toInt_mul, Int.bmod_eq_of_le (by omega) (by omega)]
theorem na_lt {x y : Int32} : x < y ↔ x.toInt < y.toInt := Int32.lt_iff_toInt_lt
theorem na_le {x y : Int32} : x ≤ y ↔ x.toInt ≤ y.toInt := Int32.le_iff_toInt_le
theorem na_eq {x y : Int32} : x = y ↔ x.toInt = y.toInt := Int32.toInt_inj.symm
theorem nb_lt {x y : Int64} : x < y ↔ x.toInt < y.toInt := Int64.lt_iff_toInt_lt
theorem nb_le {x y : Int64} : x ≤ y ↔ x.toInt ≤ y.toInt := Int64.le_iff_toInt_le
theorem nb_eq {x y : Int64} : x = y ↔ x.toInt = y.toInt := Int64.toInt_inj.symm
theorem na_nI {n : Nat} (h : n < 2147483648) : (nI n).toInt = n := nI_toInt (by omega)
/-- a count that is not below 0 is one of a Nat -/
theorem na_of {x : Int32} (h : 0 ≤ x.toInt) : ∃ n : Nat, x = nI n ∧ (n : Int) = x.toInt ∧ n < 2147483648 := by
  refine ⟨x.toInt.toNat, ?_, by omega, by have := na_hi x; omega⟩
  rw [na_eq, na_nI (by have := na_hi x; omega)]
  omega
theorem na_in {x : Int32} {n : Nat} (h1 : 0 ≤ x.toInt) (h2 : x.toInt < n) : vp_in x n := vp_in_iff.mpr ⟨h1, h2⟩
theorem na_cl {x : Int32} (h : 0 ≤ x.toInt) : (x.toNatClampNeg : Int) = x.toInt := by
  obtain ⟨n, rfl, h1, h2⟩ := na_of h
  rw [nI_clamp (by omega)]
  exact h1
theorem na_k0 : (0 : Int32).toInt = 0 := rfl
theorem na_k1 : (1 : Int32).toInt = 1 := rfl
theorem na_k9 : (9 : Int32).toInt = 9 := rfl
theorem na_m9 : (-9 : Int32).toInt = -9 := rfl
/-- two ways of one value -/
theorem ax_br {c : Prop} {A B : Prop} (h1 : c → A) (h2 : ¬ c → B) : (c → A) ∧ (¬ c → B) := ⟨h1, h2⟩
theorem ax_rb {c : Prop} {A B : Prop} (h1 : ¬ c → A) (h2 : c → B) : (¬ c → A) ∧ (c → B) := ⟨h1, h2⟩
def pp_ (m : Nat) : Nat → Nat
  | 0 => 0
  | s + 1 => pp_ m s + (if m.testBit s = true then 1 else 0)
theorem bt_dec : ((List.range 1024).all fun m => (List.range 10).all fun s => decide (nI m ||| 1 <<< (nI s &&& 31) = nI (m ||| 2 ^ s)) && decide (nI m >>> (nI s &&& 31) &&& 1 = nI (if m.testBit s = true then 1 else 0)) && decide (m ||| 2 ^ s < 1024) && decide (pp_ (m ||| 2 ^ s) 10 = pp_ m 10 + (if m.testBit s = true then 0 else 1))) = true := by decide +kernel
