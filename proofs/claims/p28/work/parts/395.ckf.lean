/-! ===== the checker is sound: writes ===== -/
theorem ck_h_wr {SP : List ck_C} {h : ab_H} {a : Nat} {c : ck_C} {e : ab_E} (hat : ck_at SP a = some c) (he : ck_c c e) (hh : ck_h SP h) : ck_h SP (ab_wr h a e) := by
  refine ⟨hh.1, fun k c' hk => ?_⟩
  show ck_c c' (va_up h.2.2 a e (k + 1))
  by_cases q : k + 1 = a
  · subst q
    have hk2 : SP[k]? = some c := hat
    rw [hk] at hk2
    cases hk2
    rw [va_up_self]
    exact he
  · rw [va_up_ne _ _ q]
    exact hh.2 k c' hk
theorem ck_fd_wr {h : ab_H} {a k : Nat} {e : ab_E} (hk : k / 64 ≠ a) : ck_fd (ab_wr h a e) k = ck_fd h k := by
  unfold ck_fd
  rw [ab_rd_other hk]
/-- an array's cell is written: no field changes -/
theorem ck_fd_arr {h : ab_H} {a k : Nat} {x y : Nat × Nat × ab_C} (hr : ab_rd h a = some (.inl x)) : ck_fd (ab_wr h a (.inl y)) k = ck_fd h k := by
  by_cases hk : k / 64 = a
  · unfold ck_fd
    rw [hk, hr, ab_rd_self (ab_rd_of hr).1]
  · exact ck_fd_wr hk
