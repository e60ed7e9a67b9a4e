/-! ===== the checker is sound: an int fits its type ===== -/
theorem ck_b8 {x : Int32} (h1 : -128 ≤ x.toInt) (h2 : x.toInt ≤ 127) : x.toInt8.toInt32 = x := by
  refine Int32.toInt_inj.mp ?_
  rw [Int8.toInt_toInt32, Int32.toInt_toInt8]
  exact Int.bmod_eq_of_le (by omega) (by omega)
theorem ck_b16 {x : Int32} (h1 : -32768 ≤ x.toInt) (h2 : x.toInt ≤ 32767) : x.toInt16.toInt32 = x := by
  refine Int32.toInt_inj.mp ?_
  rw [Int16.toInt_toInt32, Int32.toInt_toInt16]
  exact Int.bmod_eq_of_le (by omega) (by omega)
theorem ck_bz {x : Int32} (h1 : 0 ≤ x.toInt) (h2 : x.toInt ≤ 1) : x = 0 ∨ x = 1 := by
  rcases (show x.toInt = 0 ∨ x.toInt = 1 by omega) with e | e
  · exact Or.inl (Int32.toInt_inj.mp e)
  · exact Or.inr (Int32.toInt_inj.mp e)
theorem ck_fit_bz {x : Int32} (h1 : 0 ≤ x.toInt) (h2 : x.toInt ≤ 1) : ab_fit .boolean (.int x) = true := by
  rcases ck_bz h1 h2 with e | e <;> subst e <;> decide
theorem ck_fit_i {x : Int32} : ab_fit .int (.int x) = true := by
  unfold ab_fit
  rw [Bool.and_eq_true, decide_eq_true_eq]
  exact ⟨rfl, rfl⟩
