/-! ===== the best ring ===== -/
def BTi (S_w : Nat → Nat → Prop) (cl_w : Nat → Nat → Int) (N_w D_w : Int) (on_w : Int32) : Prop := (N_w = 0 ∧ D_w = 0 ∧ (∀ b_w, b_w < 32 → b32 on_w b_w = false) ∧ ∀ f_w k_w, S_w f_w k_w → cl_w f_w k_w = -1) ∨ ((1 ≤ D_w ∧ D_w ≤ 16) ∧ (0 ≤ N_w ∧ N_w ≤ 6000) ∧ (∃ f_w k_w, S_w f_w k_w ∧ cl_w f_w k_w = N_w ∧ (k_w : Int) = D_w) ∧ (∀ f_w k_w, S_w f_w k_w → cl_w f_w k_w ≠ -1 → cl_w f_w k_w * D_w ≤ N_w * k_w) ∧ ∀ b_w, b_w < 32 → (b32 on_w b_w = true ↔ ∃ k_w, S_w b_w k_w ∧ cl_w b_w k_w ≠ -1 ∧ cl_w b_w k_w * D_w = N_w * k_w))
theorem crs_w {x_w y_w N_w D_w : Int} {k_w t_w : Int} (hk : 1 ≤ k_w) (ht : 1 ≤ t_w) (hD : 1 ≤ D_w) (h1 : x_w * D_w ≤ N_w * k_w) (h2 : N_w * t_w < y_w * D_w) : x_w * t_w < y_w * k_w := by
  refine Int.not_le.mp (fun c_w => ?_)
  have a1_w : y_w * k_w * D_w ≤ x_w * t_w * D_w := Int.mul_le_mul_of_nonneg_right c_w (by omega)
  have a2 : x_w * D_w * t_w ≤ N_w * k_w * t_w := Int.mul_le_mul_of_nonneg_right h1 (by omega)
  have a3 : (N_w * t_w + 1) * k_w ≤ y_w * D_w * k_w := Int.mul_le_mul_of_nonneg_right (by omega) (by omega)
  have e1_w : y_w * k_w * D_w = y_w * D_w * k_w := Int.mul_right_comm _ _ _
  have e2_w : x_w * t_w * D_w = x_w * D_w * t_w := Int.mul_right_comm _ _ _
  have e3_w : N_w * k_w * t_w = N_w * t_w * k_w := Int.mul_right_comm _ _ _
  have e4_w : (N_w * t_w + 1) * k_w = N_w * t_w * k_w + k_w := by rw [Int.add_mul, Int.one_mul]
  omega
theorem BTi.s0 {S_w S' : Nat → Nat → Prop} {cl_w : Nat → Nat → Int} {N_w D_w : Int} {on_w : Int32} {e_w t_w : Nat} (B_w : BTi S_w cl_w N_w D_w on_w) (hS_w : ∀ f_w k_w, S' f_w k_w ↔ S_w f_w k_w ∨ (f_w = e_w ∧ k_w = t_w)) (h_w : cl_w e_w t_w = -1 ∨ (1 ≤ D_w ∧ cl_w e_w t_w * D_w < N_w * t_w)) : BTi S' cl_w N_w D_w on_w := by
  rcases B_w with ⟨b1, b2, b3, b4⟩ | ⟨b1, b2, ⟨f_w, k_w, c1_w, c2_w, c3_w⟩, b4, b5⟩
  · refine Or.inl ⟨b1, b2, b3, fun f_w k_w s_w => ?_⟩
    rcases (hS_w f_w k_w).mp s_w with s_w | ⟨s1_w, s2_w⟩
    · exact b4 f_w k_w s_w
    · rw [s1_w, s2_w]
      rcases h_w with h_w | h_w
      · exact h_w
      · omega
  · refine Or.inr ⟨b1, b2, ⟨f_w, k_w, (hS_w f_w k_w).mpr (Or.inl c1_w), c2_w, c3_w⟩, fun f_w k_w s_w n_w => ?_, fun b_w hb_w => ?_⟩
    · rcases (hS_w f_w k_w).mp s_w with s_w | ⟨s1_w, s2_w⟩
      · exact b4 f_w k_w s_w n_w
      · rw [s1_w, s2_w] at n_w ⊢
        rcases h_w with h_w | h_w
        · exact absurd h_w n_w
        · exact Int.le_of_lt h_w.2
    · rw [b5 b_w hb_w]
      constructor
      · rintro ⟨k_w, s_w, r_w⟩
        exact ⟨k_w, (hS_w b_w k_w).mpr (Or.inl s_w), r_w⟩
      · rintro ⟨k_w, s_w, n_w, r_w⟩
        rcases (hS_w b_w k_w).mp s_w with s_w | ⟨s1_w, s2_w⟩
        · exact ⟨k_w, s_w, n_w, r_w⟩
        · rw [s1_w, s2_w] at n_w r_w
          rcases h_w with h_w | h_w
          · exact absurd h_w n_w
          · omega
theorem BTi.s3 {S_w S' : Nat → Nat → Prop} {cl_w : Nat → Nat → Int} {N_w D_w : Int} {on_w on' : Int32} {e_w t_w : Nat} (B_w : BTi S_w cl_w N_w D_w on_w) (hS_w : ∀ f_w k_w, S' f_w k_w ↔ S_w f_w k_w ∨ (f_w = e_w ∧ k_w = t_w)) (he : e_w < 32) (h0 : cl_w e_w t_w ≠ -1) (hD : 1 ≤ D_w) (h_w : cl_w e_w t_w * D_w = N_w * t_w) (ho : ∀ b_w, b_w < 32 → b32 on' b_w = (b32 on_w b_w || decide (b_w = e_w))) : BTi S' cl_w N_w D_w on' := by
  rcases B_w with ⟨b1, b2, b3, b4⟩ | ⟨b1, b2, ⟨f_w, k_w, c1_w, c2_w, c3_w⟩, b4, b5⟩
  · omega
  · refine Or.inr ⟨b1, b2, ⟨f_w, k_w, (hS_w f_w k_w).mpr (Or.inl c1_w), c2_w, c3_w⟩, fun f_w k_w s_w n_w => ?_, fun b_w hb_w => ?_⟩
    · rcases (hS_w f_w k_w).mp s_w with s_w | ⟨s1_w, s2_w⟩
      · exact b4 f_w k_w s_w n_w
      · rw [s1_w, s2_w]
        exact Int.le_of_eq h_w
    · rw [ho b_w hb_w, Bool.or_eq_true, b5 b_w hb_w, decide_eq_true_eq]
      constructor
      · rintro (⟨k_w, s_w, r_w⟩ | r_w)
        · exact ⟨k_w, (hS_w b_w k_w).mpr (Or.inl s_w), r_w⟩
        · rw [r_w]
          exact ⟨t_w, (hS_w e_w t_w).mpr (Or.inr ⟨rfl, rfl⟩), h0, h_w⟩
      · rintro ⟨k_w, s_w, r_w⟩
        rcases (hS_w b_w k_w).mp s_w with s_w | ⟨s1_w, s2_w⟩
        · exact Or.inl ⟨k_w, s_w, r_w⟩
        · exact Or.inr s1_w
theorem BTi.s4 {S_w S' : Nat → Nat → Prop} {cl_w : Nat → Nat → Int} {N_w D_w : Int} {on_w on' : Int32} {e_w t_w : Nat} (B_w : BTi S_w cl_w N_w D_w on_w) (hS_w : ∀ f_w k_w, S' f_w k_w ↔ S_w f_w k_w ∨ (f_w = e_w ∧ k_w = t_w)) (hk : ∀ f_w k_w, S_w f_w k_w → 1 ≤ k_w) (he : e_w < 32) (ht : 1 ≤ t_w ∧ t_w ≤ 16) (h0 : 0 ≤ cl_w e_w t_w ∧ cl_w e_w t_w ≤ 6000) (h_w : D_w = 0 ∨ (1 ≤ D_w ∧ N_w * t_w < cl_w e_w t_w * D_w)) (ho : ∀ b_w, b_w < 32 → b32 on' b_w = decide (b_w = e_w)) : BTi S' cl_w (cl_w e_w t_w) t_w on' := by
  have lt_w : ∀ f_w k_w, S_w f_w k_w → cl_w f_w k_w ≠ -1 → cl_w f_w k_w * t_w < cl_w e_w t_w * k_w := fun f_w k_w s_w n_w => by
    rcases B_w with ⟨b1, b2, b3, b4⟩ | ⟨b1, b2, b3, b4, b5⟩
    · exact absurd (b4 f_w k_w s_w) n_w
    · rcases h_w with h_w | h_w
      · omega
      · have := hk f_w k_w s_w
        exact crs_w (by omega) (by omega) h_w.1 (b4 f_w k_w s_w n_w) h_w.2
  refine Or.inr ⟨by omega, h0, ⟨e_w, t_w, (hS_w e_w t_w).mpr (Or.inr ⟨rfl, rfl⟩), rfl, rfl⟩, fun f_w k_w s_w n_w => ?_, fun b_w hb_w => ?_⟩
  · rcases (hS_w f_w k_w).mp s_w with s_w | ⟨s1_w, s2_w⟩
    · exact Int.le_of_lt (lt_w f_w k_w s_w n_w)
    · rw [s1_w, s2_w]
      exact Int.le_refl _
  · rw [ho b_w hb_w, decide_eq_true_eq]
    constructor
    · intro r_w
      rw [r_w]
      exact ⟨t_w, (hS_w e_w t_w).mpr (Or.inr ⟨rfl, rfl⟩), by omega, rfl⟩
    · rintro ⟨k_w, s_w, n_w, r_w⟩
      rcases (hS_w b_w k_w).mp s_w with s_w | ⟨s1_w, s2_w⟩
      · have := lt_w b_w k_w s_w n_w
        omega
      · exact s1_w
