/-! ===== the net with a wire more ===== -/
/-- rows of bits: all told, none above -/
def CB (n_w : Nat → Nat → Int32) : Prop := XB n_w ∧ ∀ k_w : Nat, (k_w : Int) < (n_w 0 1).toInt → ∀ b : Nat, b < 32 → (n_w 0 2).toInt ≤ b → b32 (n_w 6 k_w) b = false ∧ b32 (n_w 7 k_w) b = false
theorem or0_ {x_w : Int32} : 0 ||| x_w = x_w := b32_ext (fun k_w hk => by rw [b32_or, b32_0, Bool.false_or])
theorem mvB_b {x_w y_w F_w : Int32} (hx : 0 ≤ x_w.toInt ∧ x_w.toInt < 32) (hy : 0 ≤ y_w.toInt ∧ y_w.toInt < 32) (hxy : x_w.toNatClampNeg ≠ y_w.toNatClampNeg) {k_w : Nat} (hk : k_w < 32) : b32 (mvB x_w y_w F_w) k_w = if k_w = x_w.toNatClampNeg then false else if k_w = y_w.toNatClampNeg then (b32 F_w k_w || b32 F_w x_w.toNatClampNeg) else b32 F_w k_w := by
  unfold mvB
  by_cases hb_w : b32 F_w x_w.toNatClampNeg = true
  · rw [if_pos hb_w, b32_or, b32_and, b32_xor, b32_m1 hk, b32_1 hx hk, b32_1 hy hk, hb_w]
    by_cases h1 : k_w = x_w.toNatClampNeg
    · rw [if_pos h1, decide_eq_true h1, decide_eq_false (show ¬ k_w = y_w.toNatClampNeg by omega)]
      simp
    · rw [if_neg h1, decide_eq_false h1]
      by_cases h2 : k_w = y_w.toNatClampNeg
      · rw [if_pos h2, decide_eq_true h2]
        simp
      · rw [if_neg h2, decide_eq_false h2]
        simp
  · rw [if_neg hb_w]
    by_cases h1 : k_w = x_w.toNatClampNeg
    · rw [if_pos h1, h1]
      exact eq_false_of_ne_true hb_w
    · rw [if_neg h1]
      by_cases h2 : k_w = y_w.toNatClampNeg
      · rw [if_pos h2, eq_false_of_ne_true hb_w, Bool.or_false]
      · rw [if_neg h2]
