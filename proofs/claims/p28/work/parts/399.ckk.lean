/-! ===== the checker is sound: putfield, the step ===== -/
section CKK
variable {SP : List ck_C} {Mo : List Nat} {β : Nat → Int} {A : ck_S} {lv : ab_L} {st : List Value} {h : ab_H} {l : List (Nat × ck_S)} {pc : Nat}
theorem ck_ty_ok {ty : FieldType} {lo hi : Int} {x : Int32} (hf : ck_fit ty lo hi = true) (h1 : lo ≤ x.toInt) (h2 : x.toInt ≤ hi) (hc : ty = .int ∨ ty = .boolean ∨ ty = .byte) : ab_fit ty (.int x) = true := by
  rcases hc with e | e | e <;> subst e
  · exact ck_fit_i
  · unfold ck_fit at hf
    rw [Bool.and_eq_true, decide_eq_true_eq, decide_eq_true_eq] at hf
    exact ck_fit_bz (by omega) (by omega)
  · unfold ck_fit at hf
    rw [Bool.and_eq_true, decide_eq_true_eq, decide_eq_true_eq] at hf
    unfold ab_fit
    rw [Bool.and_eq_true, decide_eq_true_eq]
    refine ⟨?_, ?_⟩
    · show Value.int x.toInt8.toInt32 = .int x
      rw [ck_b8 (by omega) (by omega)]
    · show (decide (-128 ≤ x) && decide (x ≤ 127)) = true
      rw [Bool.and_eq_true, decide_eq_true_eq, decide_eq_true_eq, Int32.le_iff_toInt_le, Int32.le_iff_toInt_le]
      have e1 : (-128 : Int32).toInt = -128 := by decide
      have e2 : (127 : Int32).toInt = 127 := by decide
      omega
end CKK
