theorem l_toInt {k : Nat} (h : k < 100000) : (nI k).toInt = k := by
  show (Int32.ofNat k).toInt = k
  rw [Int32.toInt_ofNat_of_lt (by omega)]
theorem l_add {n j : Nat} : nI n + nI j = nI (n + j) := (Int32.ofNat_add n j).symm
