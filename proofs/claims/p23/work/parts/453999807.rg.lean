/-! ===== fractions ===== -/
theorem frac_w {a_w b_w c_w d_w : Nat} (hb_w : 0 < b_w) (hd_w : 0 < d_w) (h_w : a_w * d_w = c_w * b_w) : a_w / Nat.gcd a_w b_w = c_w / Nat.gcd c_w d_w ∧ b_w / Nat.gcd a_w b_w = d_w / Nat.gcd c_w d_w := by
  have g0 : 0 < Nat.gcd a_w b_w := Nat.gcd_pos_of_pos_right a_w hb_w
  have h0 : 0 < Nat.gcd c_w d_w := Nat.gcd_pos_of_pos_right c_w hd_w
  obtain ⟨g_w, hg⟩ : ∃ g_w, Nat.gcd a_w b_w = g_w := ⟨_, rfl⟩
  obtain ⟨k_w, hk⟩ : ∃ k_w, Nat.gcd c_w d_w = k_w := ⟨_, rfl⟩
  have C1 := Nat.coprime_div_gcd_div_gcd g0
  have C2 := Nat.coprime_div_gcd_div_gcd h0
  have ea : g_w * (a_w / g_w) = a_w := Nat.mul_div_cancel' (by rw [← hg]; exact Nat.gcd_dvd_left a_w b_w)
  have eb : g_w * (b_w / g_w) = b_w := Nat.mul_div_cancel' (by rw [← hg]; exact Nat.gcd_dvd_right a_w b_w)
  have ec : k_w * (c_w / k_w) = c_w := Nat.mul_div_cancel' (by rw [← hk]; exact Nat.gcd_dvd_left c_w d_w)
  have ed : k_w * (d_w / k_w) = d_w := Nat.mul_div_cancel' (by rw [← hk]; exact Nat.gcd_dvd_right c_w d_w)
  rw [hg] at g0 C1
  rw [hk] at h0 C2
  rw [hg, hk]
  generalize a_w / g_w = x_w at *
  generalize b_w / g_w = y_w at *
  generalize c_w / k_w = z_w at *
  generalize d_w / k_w = w at *
  have e_w : x_w * w = z_w * y_w := by
    rw [← ea, ← eb, ← ec, ← ed] at h_w
    have h1 : g_w * x_w * (k_w * w) = (g_w * k_w) * (x_w * w) := by rw [Nat.mul_mul_mul_comm]
    have h2 : k_w * z_w * (g_w * y_w) = (g_w * k_w) * (z_w * y_w) := by rw [Nat.mul_mul_mul_comm, Nat.mul_comm k_w g_w]
    rw [h1, h2] at h_w
    exact Nat.eq_of_mul_eq_mul_left (Nat.mul_pos g0 h0) h_w
  constructor
  · exact Nat.dvd_antisymm (C1.dvd_of_dvd_mul_right (by rw [← e_w]; exact Nat.dvd_mul_right x_w w)) (C2.dvd_of_dvd_mul_right (by rw [e_w]; exact Nat.dvd_mul_right z_w y_w))
  · exact Nat.dvd_antisymm (C1.symm.dvd_of_dvd_mul_left (by rw [e_w]; exact Nat.dvd_mul_left y_w z_w)) (C2.symm.dvd_of_dvd_mul_left (by rw [← e_w]; exact Nat.dvd_mul_left w x_w))
theorem qu_w {x_w y_w : Int32} {A_w B_w : Nat} (hx : x_w.toInt = A_w) (hy : y_w.toInt = B_w) (hA : A_w < 2000000000) (hB_w : 0 < B_w) : (x_w / y_w).toInt = (A_w / B_w : Nat) := by
  have l : A_w / B_w ≤ A_w := Nat.div_le_self A_w B_w
  rw [Int32.toInt_div, hx, hy, ← Int.ofNat_tdiv]
  generalize A_w / B_w = Q at l ⊢
  rw [sx_bm (by omega) (by omega)]
theorem re_w {x_w y_w : Int32} {A_w B_w : Nat} (hx : x_w.toInt = A_w) (hy : y_w.toInt = B_w) (hA : A_w < 2000000000) (hB_w : 0 < B_w) : (x_w - x_w / y_w * y_w).toInt = (A_w % B_w : Nat) := by
  have q_w := qu_w hx hy hA hB_w
  have l : A_w / B_w * B_w ≤ A_w := Nat.div_mul_le_self A_w B_w
  have m1_w : (x_w / y_w * y_w).toInt = ((A_w / B_w * B_w : Nat) : Int) := by
    rw [Int32.toInt_mul, q_w, hy, ← Int.natCast_mul, sx_bm (by omega) (by omega)]
  have e_w := Nat.mod_add_div A_w B_w
  rw [Nat.mul_comm] at e_w
  rw [Int32.toInt_sub, hx, m1_w, sx_bm (by omega) (by omega)]
  omega
theorem red_w {N_w D_w : Nat} {m_w e_w : dc_M} (hN_w : (m_w.1 30 1).toInt = N_w) (hD : (m_w.1 30 2).toInt = D_w) (N6 : N_w ≤ 6000) (D16 : D_w ≤ 16) (h_w : d_X5_reduce 30 m_w = some e_w) : (∀ y_w k_w, ¬ (y_w = 30 ∧ (k_w = 1 ∨ k_w = 2)) → e_w.1 y_w k_w = m_w.1 y_w k_w) ∧ (D_w = 0 → N_w = 0 → e_w = m_w) ∧ (1 ≤ D_w → (e_w.1 30 1).toInt = (N_w / Nat.gcd N_w D_w : Nat) ∧ (e_w.1 30 2).toInt = (D_w / Nat.gcd N_w D_w : Nat)) := by
  unfold d_X5_reduce d_X5_reduce_l12 at h_w
  have fin_w : ∀ (x_w : Int32) (g_w : Nat), x_w.toInt = g_w → g_w = Nat.gcd N_w D_w → d_X5_reduce_b38 30 x_w m_w = some e_w → (∀ y_w k_w, ¬ (y_w = 30 ∧ (k_w = 1 ∨ k_w = 2)) → e_w.1 y_w k_w = m_w.1 y_w k_w) ∧ (D_w = 0 → N_w = 0 → e_w = m_w) ∧ (1 ≤ D_w → (e_w.1 30 1).toInt = (N_w / Nat.gcd N_w D_w : Nat) ∧ (e_w.1 30 2).toInt = (D_w / Nat.gcd N_w D_w : Nat)) := fun x_w g_w hx hg hz => by
    unfold d_X5_reduce_b38 at hz
    by_cases c_w : x_w.toInt ≤ 1
    · rw [if_pos c_w] at hz
      have hz := Option.some.inj hz
      rw [← hz]
      refine ⟨fun _ _ _ => rfl, fun _ _ => rfl, fun d_w => ?_⟩
      have g0 : 0 < Nat.gcd N_w D_w := Nat.gcd_pos_of_pos_right N_w d_w
      have g1 : Nat.gcd N_w D_w = 1 := by omega
      rw [g1, Nat.div_one, Nat.div_one]
      exact ⟨hN_w, hD⟩
    · rw [if_neg c_w] at hz
      have hz := Option.some.inj hz
      rw [← hz]
      refine ⟨fun y_w k_w n_w => ?_, fun d_w n_w => ?_, fun d_w => ⟨?_, ?_⟩⟩
      · rw [wi_k (by omega), wi_k (by omega)]
      · rw [d_w, n_w, show Nat.gcd 0 0 = 0 from rfl] at hg
        omega
      · rw [wi_k (by omega), wi_s, ← hg]
        exact qu_w hN_w hx (by omega) (by omega)
      · rw [wi_s, wi_k (by omega), ← hg]
        exact qu_w hD hx (by omega) (by omega)
  refine dc_lp_inv (s := (m_w.1 30 1, m_w.1 30 2, (0 : Int32))) (fun s : Int32 × Int32 × Int32 => ∃ A_w B_w n_w : Nat, s.1.toInt = A_w ∧ s.2.1.toInt = B_w ∧ s.2.2 = Int32.ofNat n_w ∧ A_w ≤ 6000 ∧ B_w + n_w ≤ 16 ∧ Nat.gcd A_w B_w = Nat.gcd N_w D_w) (fun e' : dc_M => e' = e_w → (∀ y_w k_w, ¬ (y_w = 30 ∧ (k_w = 1 ∨ k_w = 2)) → e_w.1 y_w k_w = m_w.1 y_w k_w) ∧ (D_w = 0 → N_w = 0 → e_w = m_w) ∧ (1 ≤ D_w → (e_w.1 30 1).toInt = (N_w / Nat.gcd N_w D_w : Nat) ∧ (e_w.1 30 2).toInt = (D_w / Nat.gcd N_w D_w : Nat))) (fun s s' hI hs => ?_) (fun s u_w hI hs => ?_) ⟨N_w, D_w, 0, hN_w, hD, rfl, N6, by omega, rfl⟩ h_w rfl
  · obtain ⟨A_w, B_w, n_w, i1_w, i2_w, i3_w, i4_w, i5_w, i6_w⟩ := hI
    obtain ⟨x_w, y_w, z_w⟩ := s
    have i1_w : x_w.toInt = A_w := i1_w
    have i2_w : y_w.toInt = B_w := i2_w
    have i3_w : z_w = Int32.ofNat n_w := i3_w
    have hs : d_X5_reduce_l12b 30 x_w y_w z_w m_w = some (.inl s') := hs
    unfold d_X5_reduce_l12b at hs
    rw [i3_w, mk_i (by omega), if_neg (show ¬ (100 : Int) ≤ n_w by omega)] at hs
    by_cases c_w : y_w.toInt = 0
    · rw [if_pos c_w] at hs
      generalize d_X5_reduce_b38 30 x_w m_w = o at hs
      cases o with
      | none => cases hs
      | some o => cases hs
    · rw [if_neg c_w] at hs
      have hs := Sum.inl.inj (Option.some.inj hs)
      rw [← hs]
      have b0 : 0 < B_w := by omega
      have lt_w : A_w % B_w < B_w := Nat.mod_lt A_w b0
      refine ⟨B_w, A_w % B_w, n_w + 1, i2_w, re_w i1_w i2_w (by omega) b0, on_1 (by omega), by omega, by omega, ?_⟩
      rw [← i6_w, Nat.gcd_comm A_w B_w, Nat.gcd_rec B_w A_w, Nat.gcd_comm]
  · intro hu
    obtain ⟨A_w, B_w, n_w, i1_w, i2_w, i3_w, i4_w, i5_w, i6_w⟩ := hI
    obtain ⟨x_w, y_w, z_w⟩ := s
    have i1_w : x_w.toInt = A_w := i1_w
    have i2_w : y_w.toInt = B_w := i2_w
    have i3_w : z_w = Int32.ofNat n_w := i3_w
    have hs : d_X5_reduce_l12b 30 x_w y_w z_w m_w = some (.inr u_w) := hs
    unfold d_X5_reduce_l12b at hs
    rw [i3_w, mk_i (by omega), if_neg (show ¬ (100 : Int) ≤ n_w by omega)] at hs
    by_cases c_w : y_w.toInt = 0
    · rw [if_pos c_w] at hs
      cases hq : d_X5_reduce_b38 30 x_w m_w with
      | none => rw [hq] at hs; cases hs
      | some o =>
        rw [hq] at hs
        have hs : o = u_w := Sum.inr.inj (Option.some.inj hs)
        rw [hs, hu] at hq
        have B0 : B_w = 0 := by omega
        rw [B0, Nat.gcd_zero_right] at i6_w
        exact fin_w x_w A_w i1_w i6_w hq
    · rw [if_neg c_w] at hs; cases hs
theorem dv_w {A_w B_w : Nat} {x_w y_w q_w : Int32} {m_w : dc_M} (hx : x_w.toInt = A_w) (hy : y_w.toInt = B_w) (hA : A_w < 1000000) (hB_w : B_w < 1000000) (h_w : d_X10_divisor x_w y_w m_w = some q_w) : q_w.toInt = Nat.gcd A_w B_w := by
  unfold d_X10_divisor d_X10_divisor_l4 at h_w
  refine dc_lp_inv (s := (x_w, y_w)) (fun s : Int32 × Int32 => ∃ A' B' : Nat, s.1.toInt = A' ∧ s.2.toInt = B' ∧ A' < 1000000 ∧ B' < 1000000 ∧ Nat.gcd A' B' = Nat.gcd A_w B_w) (fun q_w : Int32 => q_w.toInt = Nat.gcd A_w B_w) (fun s s' hI hs => ?_) (fun s u_w hI hs => ?_) ⟨A_w, B_w, hx, hy, hA, hB_w, rfl⟩ h_w
  · obtain ⟨A', B', i1_w, i2_w, i3_w, i4_w, i5_w⟩ := hI
    obtain ⟨x_w, y_w⟩ := s
    have i1_w : x_w.toInt = A' := i1_w
    have i2_w : y_w.toInt = B' := i2_w
    have hs : d_X10_divisor_l4b x_w y_w m_w = some (.inl s') := hs
    unfold d_X10_divisor_l4b at hs
    by_cases c_w : y_w.toInt = 0
    · rw [if_pos c_w] at hs; cases hs
    · rw [if_neg c_w] at hs
      have hs := Sum.inl.inj (Option.some.inj hs)
      rw [← hs]
      have b0 : 0 < B' := by omega
      have lt_w : A' % B' < B' := Nat.mod_lt A' b0
      refine ⟨B', A' % B', i2_w, re_w i1_w i2_w (by omega) b0, by omega, by omega, ?_⟩
      rw [← i5_w, Nat.gcd_comm A' B', Nat.gcd_rec B' A', Nat.gcd_comm]
  · obtain ⟨A', B', i1_w, i2_w, i3_w, i4_w, i5_w⟩ := hI
    obtain ⟨x_w, y_w⟩ := s
    have i1_w : x_w.toInt = A' := i1_w
    have i2_w : y_w.toInt = B' := i2_w
    have hs : d_X10_divisor_l4b x_w y_w m_w = some (.inr u_w) := hs
    unfold d_X10_divisor_l4b at hs
    by_cases c_w : y_w.toInt = 0
    · rw [if_pos c_w] at hs
      have hs : x_w = u_w := Sum.inr.inj (Option.some.inj hs)
      have B0 : B' = 0 := by omega
      rw [B0, Nat.gcd_zero_right] at i5_w
      rw [← hs, i1_w, i5_w]
    · rw [if_neg c_w] at hs; cases hs
