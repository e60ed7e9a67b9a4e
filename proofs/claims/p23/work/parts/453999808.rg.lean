/-! ===== the best ring, by all closed walks ===== -/
/-- what the best means: fractions N_w / D_w over all closed walks -/
def BSx (E_w P_w : Nat) (fr_w to_w : Nat → Nat) (tok : Nat → Bool) (dl : Nat → Int) (N_w D_w : Int) (on_w : Int32) : Prop := (N_w = 0 ∧ D_w = 0 ∧ ∀ e_w, e_w < E_w → ∀ l, l ≠ [] → ¬ chw P_w fr_w to_w e_w l e_w) ∨ ((1 ≤ D_w ∧ D_w ≤ 16) ∧ (0 ≤ N_w ∧ N_w ≤ 6000) ∧ (∀ e_w, e_w < E_w → ∀ l, l ≠ [] → chw P_w fr_w to_w e_w l e_w → wtw fr_w dl l * D_w ≤ N_w * tkw tok l) ∧ (∃ e_w l, e_w < E_w ∧ l ≠ [] ∧ chw P_w fr_w to_w e_w l e_w ∧ l.length ≤ E_w ∧ wtw fr_w dl l * D_w = N_w * tkw tok l) ∧ ∀ e_w, e_w < 32 → (b32 on_w e_w = true ↔ e_w < E_w ∧ ∃ l, l ≠ [] ∧ chw P_w fr_w to_w e_w l e_w ∧ wtw fr_w dl l * D_w = N_w * tkw tok l))
theorem bst_w {E_w P_w : Nat} {fr_w to_w od : Nat → Nat} {tok : Nat → Bool} {dl : Nat → Int} {cl_w : Nat → Nat → Int} {N_w D_w : Int} {on_w : Int32} (E16 : E_w ≤ 16) (hf : ∀ p_w, p_w < P_w → fr_w p_w < E_w ∧ to_w p_w < E_w) (hd_w : ∀ e_w, e_w < E_w → 0 ≤ dl e_w ∧ dl e_w ≤ 20) (O_w : ODw E_w P_w fr_w to_w tok od) (M_w : ∀ f_w, f_w < E_w → ∀ k_w, 1 ≤ k_w → k_w ≤ E_w → MWx P_w fr_w to_w tok dl f_w k_w f_w (cl_w f_w k_w)) (B_w : BTi (fun f_w k_w => f_w < E_w ∧ 1 ≤ k_w ∧ k_w ≤ E_w) cl_w N_w D_w on_w) : BSx E_w P_w fr_w to_w tok dl N_w D_w on_w := by
  have hf1 : ∀ p_w, p_w < P_w → fr_w p_w < E_w := fun p_w hp => (hf p_w hp).1
  have short_w : ∀ e_w, e_w < E_w → ∀ l, l ≠ [] → chw P_w fr_w to_w e_w l e_w → l.length ≤ E_w → 1 ≤ tkw tok l ∧ tkw tok l ≤ E_w ∧ wtw fr_w dl l ≤ cl_w e_w (tkw tok l) ∧ cl_w e_w (tkw tok l) ≠ -1 := fun e_w he l ln lc ll => by
    have t1_w := tok_w O_w hf lc ln
    have t2_w := tkw.le (tok := tok) (l := l)
    have w_w := (M_w e_w he (tkw tok l) t1_w (by omega)).2 l lc rfl
    have n_w := (wtw.nn hf hd_w lc).1
    exact ⟨t1_w, by omega, w_w, by omega⟩
  rcases B_w with ⟨b1, b2, b3, b4⟩ | ⟨b1, b2, b3, b4, b5⟩
  · refine Or.inl ⟨b1, b2, fun e_w he l ln lc => ?_⟩
    have no_w : ∀ n_w e_w l, e_w < E_w → l.length ≤ n_w → l ≠ [] → ¬ chw P_w fr_w to_w e_w l e_w := fun n_w => by
      induction n_w with
      | zero =>
        intro e_w l he hl ln lc
        exact ln (List.length_eq_zero_iff.mp (by omega))
      | succ n_w ih =>
        intro e_w l he hl ln lc
        by_cases c_w : l.length ≤ E_w
        · obtain ⟨s1_w, s2_w, s3_w, s4_w⟩ := short_w e_w he l ln lc c_w
          exact s4_w (b4 e_w _ ⟨he, s1_w, s2_w⟩)
        · obtain ⟨r_w, q_w, v_w, v1_w, r1_w, q1_w, rn, qn, rl, ql, -⟩ := split_w (tok := tok) (dl := dl) hf1 he lc (by omega)
          exact ih e_w r_w he (by omega) rn r1_w
    exact no_w l.length e_w l he (Nat.le_refl _) ln lc
  · have up_w : ∀ n_w e_w l, e_w < E_w → l.length ≤ n_w → l ≠ [] → chw P_w fr_w to_w e_w l e_w → wtw fr_w dl l * D_w ≤ N_w * tkw tok l := fun n_w => by
      induction n_w with
      | zero =>
        intro e_w l he hl ln lc
        exact absurd (List.length_eq_zero_iff.mp (by omega)) ln
      | succ n_w ih =>
        intro e_w l he hl ln lc
        by_cases c_w : l.length ≤ E_w
        · obtain ⟨s1_w, s2_w, s3_w, s4_w⟩ := short_w e_w he l ln lc c_w
          have a_w := b4 e_w _ ⟨he, s1_w, s2_w⟩ s4_w
          exact Int.le_trans (Int.mul_le_mul_of_nonneg_right s3_w (by omega)) a_w
        · obtain ⟨r_w, q_w, v_w, v1_w, r1_w, q1_w, rn, qn, rl, ql, w1_w, w2_w⟩ := split_w (tok := tok) (dl := dl) hf1 he lc (by omega)
          have a1_w := ih e_w r_w he (by omega) rn r1_w
          have a2 := ih v_w q_w v1_w (by omega) qn q1_w
          rw [← w1_w, ← w2_w, Int.natCast_add, Int.add_mul, Int.mul_add]
          omega
    have cut_w : ∀ n_w e_w l, e_w < E_w → l.length ≤ n_w → l ≠ [] → chw P_w fr_w to_w e_w l e_w → wtw fr_w dl l * D_w = N_w * tkw tok l → ∃ l', l' ≠ [] ∧ chw P_w fr_w to_w e_w l' e_w ∧ l'.length ≤ E_w ∧ wtw fr_w dl l' * D_w = N_w * tkw tok l' := fun n_w => by
      induction n_w with
      | zero =>
        intro e_w l he hl ln lc _
        exact absurd (List.length_eq_zero_iff.mp (by omega)) ln
      | succ n_w ih =>
        intro e_w l he hl ln lc eq
        by_cases c_w : l.length ≤ E_w
        · exact ⟨l, ln, lc, c_w, eq⟩
        · obtain ⟨r_w, q_w, v_w, v1_w, r1_w, q1_w, rn, qn, rl, ql, w1_w, w2_w⟩ := split_w (tok := tok) (dl := dl) hf1 he lc (by omega)
          have a1_w := up_w _ e_w r_w he (Nat.le_refl _) rn r1_w
          have a2 := up_w _ v_w q_w v1_w (Nat.le_refl _) qn q1_w
          rw [← w1_w, ← w2_w, Int.natCast_add, Int.add_mul, Int.mul_add] at eq
          exact ih e_w r_w he (by omega) rn r1_w (by omega)
    refine Or.inr ⟨b1, b2, fun e_w he l ln lc => up_w _ e_w l he (Nat.le_refl _) ln lc, ?_, fun e_w he => ?_⟩
    · obtain ⟨f_w, k_w, ⟨s1_w, s2_w, s3_w⟩, c1_w, c2_w⟩ := b3
      obtain ⟨m1_w, -⟩ := M_w f_w s1_w k_w s2_w s3_w
      rcases m1_w with m1_w | ⟨m0_w, l, l1, l2, l3⟩
      · omega
      · have ln : l ≠ [] := fun q_w => by
          rw [q_w] at l2
          have l2 : 0 = k_w := l2
          omega
        obtain ⟨l', y1, y2, y3, y4⟩ := cut_w _ f_w l s1_w (Nat.le_refl _) ln l1 (by rw [l3, l2, c1_w, c2_w])
        exact ⟨f_w, l', s1_w, y1, y2, y3, y4⟩
    · rw [b5 e_w he]
      constructor
      · rintro ⟨k_w, ⟨s1_w, s2_w, s3_w⟩, c1_w, c2_w⟩
        obtain ⟨m1_w, -⟩ := M_w e_w s1_w k_w s2_w s3_w
        rcases m1_w with m1_w | ⟨m0_w, l, l1, l2, l3⟩
        · exact absurd m1_w c1_w
        · refine ⟨s1_w, l, fun q_w => ?_, l1, by rw [l3, l2]; exact c2_w⟩
          rw [q_w] at l2
          have l2 : 0 = k_w := l2
          omega
      · rintro ⟨he, l, ln, lc, eq⟩
        obtain ⟨l', y1, y2, y3, y4⟩ := cut_w _ e_w l he (Nat.le_refl _) ln lc eq
        obtain ⟨s1_w, s2_w, s3_w, s4_w⟩ := short_w e_w he l' y1 y2 y3
        have a_w := b4 e_w _ ⟨he, s1_w, s2_w⟩ s4_w
        have b_w := Int.mul_le_mul_of_nonneg_right s3_w (show 0 ≤ D_w by omega)
        exact ⟨tkw tok l', ⟨he, s1_w, s2_w⟩, s4_w, by omega⟩
