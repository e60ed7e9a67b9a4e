/-! ===== the beat: both sides have the same fraction ===== -/
theorem ud_eq {E_w P_w : Nat} {fr_w to_w od : Nat → Nat} {tok : Nat → Bool} {dl : Nat → Int} {N_w D_w up_w down_w : Int} {on_w : Int32} (E16 : E_w ≤ 16) (hf : ∀ p, p < P_w → fr_w p < E_w ∧ to_w p < E_w) (hd_w : ∀ e_w, e_w < E_w → 0 ≤ dl e_w ∧ dl e_w ≤ 20) (O_w : ODw E_w P_w fr_w to_w tok od) (hD : 1 ≤ D_w) (B_w : BSx E_w P_w fr_w to_w tok dl N_w D_w on_w) (U_w : UDx E_w P_w fr_w to_w tok dl 17 up_w down_w) : up_w * D_w = N_w * down_w := by
  rcases B_w with ⟨-, b2, -⟩ | ⟨b1, b2, b3, ⟨e_w, l, c1_w, c2_w, c3_w, c4_w, c5_w⟩, -⟩
  · omega
  · obtain ⟨u1_w, u2_w, u3, u4_w⟩ := U_w
    refine Int.le_antisymm ?_ ?_
    · rcases u3 with z_w | ⟨f_w, r_w, r1_w, r2, r3, r4⟩
      · rw [z_w, Int.zero_mul]
        exact Int.mul_nonneg b2.1 (by omega)
      · have a1_w := b3 f_w r1_w r_w r2 r3
        have t1_w := tok_w O_w hf r3 r2
        unfold wgw at r4
        refine Int.not_lt.mp (fun c_w => ?_)
        -- N_w * down_w < up_w * D_w
        have e1_w : N_w * tkw tok r_w * down_w < up_w * D_w * tkw tok r_w := by
          have := Int.mul_lt_mul_of_pos_right c_w (show (0 : Int) < (tkw tok r_w : Int) by omega)
          rw [Int.mul_right_comm N_w _ down_w]
          exact this
        have e2_w := Int.mul_le_mul_of_nonneg_right a1_w (show 0 ≤ down_w by omega)
        have e3_w := Int.mul_le_mul_of_nonneg_right (show up_w * (tkw tok r_w : Int) ≤ down_w * wtw fr_w dl r_w by omega) (show 0 ≤ D_w by omega)
        have e4_w : wtw fr_w dl r_w * D_w * down_w = down_w * wtw fr_w dl r_w * D_w := by rw [Int.mul_comm (wtw fr_w dl r_w * D_w) down_w, Int.mul_assoc]
        have e5_w : up_w * (tkw tok r_w : Int) * D_w = up_w * D_w * (tkw tok r_w : Int) := Int.mul_right_comm _ _ _
        omega
    · have t1_w := tok_w O_w hf c3_w c2_w
      have t2_w := tkw.le (tok := tok) (l := l)
      have w1_w := wtw.nn hf hd_w c3_w
      have a_w := u4_w (tkw tok l) (wtw fr_w dl l) (by omega) (by omega) w1_w.1 (by omega) ⟨e_w, l, c1_w, c2_w, c3_w, by unfold wgw; rw [Int.mul_comm]; omega⟩
      refine Int.not_lt.mp (fun c_w => ?_)
      have e1_w := Int.mul_lt_mul_of_pos_right c_w (show (0 : Int) < (tkw tok l : Int) by omega)
      have e2_w := Int.mul_le_mul_of_nonneg_right a_w (show 0 ≤ D_w by omega)
      have e3_w : wtw fr_w dl l * down_w * D_w = N_w * tkw tok l * down_w := by rw [Int.mul_right_comm, c5_w]
      have e4_w : N_w * (tkw tok l : Int) * down_w = N_w * down_w * (tkw tok l : Int) := Int.mul_right_comm _ _ _
      have e5_w : up_w * (tkw tok l : Int) * D_w = up_w * D_w * (tkw tok l : Int) := Int.mul_right_comm _ _ _
      omega
theorem bl_w {E_w P_w : Nat} {fr_w to_w : Nat → Nat} {tok : Nat → Bool} {dl : Nat → Int} {m_w : dc_M} {x1_w : Int32} {u_w : Int32 × dc_M} (G : RGw E_w P_w fr_w to_w tok dl m_w) (h_w : d_X10_beat_l43 82 x1_w 0 1 1 m_w = some u_w) : ∃ up_w down_w zm, kww m_w zm ∧ UDx E_w P_w fr_w to_w tok dl 17 up_w.toInt down_w.toInt ∧ d_X10_beat_b124 82 x1_w up_w down_w zm = some u_w := by
  unfold d_X10_beat_l43 at h_w
  refine dc_lp_inv (s := ((0 : Int32), (1 : Int32), (1 : Int32), m_w)) (fun s : Int32 × Int32 × Int32 × dc_M => ∃ t_w : Nat, 1 ≤ t_w ∧ t_w ≤ 17 ∧ s.2.2.1 = Int32.ofNat t_w ∧ kww m_w s.2.2.2 ∧ UDx E_w P_w fr_w to_w tok dl t_w s.1.toInt s.2.1.toInt) (fun u_w : Int32 × dc_M => ∃ up_w down_w zm, kww m_w zm ∧ UDx E_w P_w fr_w to_w tok dl 17 up_w.toInt down_w.toInt ∧ d_X10_beat_b124 82 x1_w up_w down_w zm = some u_w) (fun s s' hI hs => ?_) (fun s u_w hI hs => ?_) ⟨1, by decide, by decide, rfl, ⟨rfl, rfl⟩, show 0 ≤ (0 : Int32).toInt ∧ (0 : Int32).toInt ≤ 320 by decide, show 1 ≤ (1 : Int32).toInt ∧ (1 : Int32).toInt ≤ 16 by decide, Or.inl rfl, fun t' U' h1 h2 => by omega⟩ h_w
  · obtain ⟨t_w, i1_w, i2_w, i3_w, i4_w, i5_w⟩ := hI
    obtain ⟨up_w, down_w, y, zm⟩ := s
    have i3_w : y = Int32.ofNat t_w := i3_w
    have i4_w : kww m_w zm := i4_w
    have hs : d_X10_beat_l43b 82 x1_w up_w down_w y zm = some (.inl s') := hs
    unfold d_X10_beat_l43b at hs
    rw [i3_w, mk_i (by omega)] at hs
    by_cases c_w : (16 : Int) < t_w
    · rw [if_pos c_w] at hs
      generalize d_X10_beat_b124 82 x1_w up_w down_w zm = o at hs
      cases o with
      | none => cases hs
      | some o => cases hs
    · rw [if_neg c_w] at hs
      obtain ⟨up', down', m', r1_w, r2, r3⟩ := bs_w (G.eqw (fun y _ _ => by rw [i4_w.1])) ⟨i1_w, by omega⟩ i5_w hs
      have r1_w := Sum.inl.inj r1_w
      rw [r1_w]
      exact ⟨t_w + 1, by omega, by omega, rfl, ⟨r2.1.trans i4_w.1, r2.2.trans i4_w.2⟩, r3⟩
  · obtain ⟨t_w, i1_w, i2_w, i3_w, i4_w, i5_w⟩ := hI
    obtain ⟨up_w, down_w, y, zm⟩ := s
    have i3_w : y = Int32.ofNat t_w := i3_w
    have i4_w : kww m_w zm := i4_w
    have i5_w : UDx E_w P_w fr_w to_w tok dl t_w up_w.toInt down_w.toInt := i5_w
    have hs : d_X10_beat_l43b 82 x1_w up_w down_w y zm = some (.inr u_w) := hs
    unfold d_X10_beat_l43b at hs
    rw [i3_w, mk_i (by omega)] at hs
    by_cases c_w : (16 : Int) < t_w
    · rw [if_pos c_w] at hs
      have te : t_w = 17 := by omega
      rw [te] at i5_w
      cases hq : d_X10_beat_b124 82 x1_w up_w down_w zm with
      | none => rw [hq] at hs; cases hs
      | some o =>
        rw [hq] at hs
        have hs : o = u_w := Sum.inr.inj (Option.some.inj hs)
        exact ⟨up_w, down_w, zm, i4_w, i5_w, by rw [hq, hs]⟩
    · rw [if_neg c_w] at hs
      obtain ⟨up', down', m', r1_w, -⟩ := bs_w (G.eqw (fun y _ _ => by rw [i4_w.1])) ⟨i1_w, by omega⟩ i5_w hs
      cases r1_w
/-- the events on_w the best rings -/
theorem b167_w {E_w : Nat} {m_w m' : dc_M} {v_w : Int32} (hE : (m_w.1 82 3).toInt = E_w) (E16 : E_w ≤ 16) (h_w : d_X10_beat_l167 82 0 0 m_w = some (v_w, m')) : m' = m_w ∧ ∀ b_w, b_w < 32 → (b32 v_w b_w = true ↔ b_w < E_w ∧ wyw m_w b_w b_w = 0) := by
  unfold d_X10_beat_l167 at h_w
  refine dc_lp_inv (s := ((0 : Int32), (0 : Int32))) (fun s : Int32 × Int32 => ∃ i_w : Nat, i_w ≤ E_w ∧ s.2 = Int32.ofNat i_w ∧ ∀ b_w, b_w < 32 → (b32 s.1 b_w = true ↔ b_w < i_w ∧ wyw m_w b_w b_w = 0)) (fun u_w : Int32 × dc_M => (v_w, m') = u_w → m' = m_w ∧ ∀ b_w, b_w < 32 → (b32 v_w b_w = true ↔ b_w < E_w ∧ wyw m_w b_w b_w = 0)) (fun s s' hI hs => ?_) (fun s u_w hI hs => ?_) ⟨0, Nat.zero_le _, rfl, fun b_w _ => ⟨fun q_w => (by rw [b32_0] at q_w; cases q_w), fun q_w => absurd q_w.1 (Nat.not_lt_zero b_w)⟩⟩ h_w rfl
  · obtain ⟨i_w, i1_w, i2_w, i3_w⟩ := hI
    obtain ⟨x, y⟩ := s
    have i2_w : y = Int32.ofNat i_w := i2_w
    have i3_w : ∀ b_w, b_w < 32 → (b32 x b_w = true ↔ b_w < i_w ∧ wyw m_w b_w b_w = 0) := i3_w
    have hs : d_X10_beat_l167b 82 x y m_w = some (.inl s') := hs
    unfold d_X10_beat_l167b at hs
    rw [i2_w, hE, mk_i (by omega)] at hs
    by_cases c_w : (E_w : Int) ≤ i_w
    · rw [if_pos c_w] at hs; cases hs
    · have it : (Int32.ofNat i_w).toInt = i_w := mk_i (by omega)
      have ix : ((17 : Int32) * Int32.ofNat i_w).toNatClampNeg = 16 * i_w + i_w := by
        have t_w : ((17 : Int32) * Int32.ofNat i_w).toInt = ((17 * i_w : Nat) : Int) := by rw [Int32.toInt_mul, it, show (17 : Int32).toInt = 17 from rfl, sx_bm (by omega) (by omega)]; omega
        show ((17 : Int32) * Int32.ofNat i_w).toInt.toNat = _
        rw [t_w]
        omega
      rw [if_neg c_w, ix, on_1 (by omega), show 82 + 28 = 110 from rfl] at hs
      have lt_w := di_lt (x := m_w.2.1 110 (16 * i_w + i_w)) (y := 0)
      have gt := di_gt (x := m_w.2.1 110 (16 * i_w + i_w)) (y := 0)
      rw [show (0 : Int64).toInt = 0 from rfl] at lt_w gt
      have w_w : wyw m_w i_w i_w = (m_w.2.1 110 (16 * i_w + i_w)).toInt := rfl
      by_cases c2_w : (lg_cmp (m_w.2.1 110 (16 * i_w + i_w)) 0).toInt = 0
      · rw [if_neg (fun q_w => q_w c2_w)] at hs
        have hs := Sum.inl.inj (Option.some.inj hs)
        rw [← hs]
        refine ⟨i_w + 1, by omega, rfl, fun b_w hb_w => ?_⟩
        show b32 (x ||| ((1 : Int32) <<< (Int32.ofNat i_w &&& 31))) b_w = true ↔ _
        rw [b32_or, b32_1 ⟨by omega, by omega⟩ hb_w, on_n (by omega), Bool.or_eq_true, i3_w b_w hb_w, decide_eq_true_eq]
        have z_w : wyw m_w i_w i_w = 0 := by
          rw [w_w]
          have a1_w : ¬ (m_w.2.1 110 (16 * i_w + i_w)).toInt < 0 := fun q_w => by have := lt_w.mpr q_w; omega
          have a2 : ¬ 0 < (m_w.2.1 110 (16 * i_w + i_w)).toInt := fun q_w => by have := gt.mpr q_w; omega
          omega
        constructor
        · rintro (q_w | q_w)
          · exact ⟨by omega, q_w.2⟩
          · rw [q_w]; exact ⟨by omega, z_w⟩
        · rintro ⟨q1, q2⟩
          by_cases y : b_w = i_w
          · exact Or.inr y
          · exact Or.inl ⟨by omega, q2⟩
      · rw [if_pos c2_w] at hs
        have hs := Sum.inl.inj (Option.some.inj hs)
        rw [← hs]
        refine ⟨i_w + 1, by omega, rfl, fun b_w hb_w => ?_⟩
        show b32 (x ||| 0) b_w = true ↔ _
        rw [b32_or, b32_0, Bool.or_false, i3_w b_w hb_w]
        have z_w : wyw m_w i_w i_w ≠ 0 := fun q_w => by
          rw [w_w] at q_w
          have a1_w : ¬ (lg_cmp (m_w.2.1 110 (16 * i_w + i_w)) 0).toInt < 0 := fun r_w => by have := lt_w.mp r_w; omega
          have a2 : ¬ 0 < (lg_cmp (m_w.2.1 110 (16 * i_w + i_w)) 0).toInt := fun r_w => by have := gt.mp r_w; omega
          omega
        constructor
        · rintro ⟨q1, q2⟩
          exact ⟨by omega, q2⟩
        · rintro ⟨q1, q2⟩
          by_cases y : b_w = i_w
          · rw [y] at q2; exact absurd q2 z_w
          · exact ⟨by omega, q2⟩
  · intro hu
    obtain ⟨i_w, i1_w, i2_w, i3_w⟩ := hI
    obtain ⟨x, y⟩ := s
    have i2_w : y = Int32.ofNat i_w := i2_w
    have i3_w : ∀ b_w, b_w < 32 → (b32 x b_w = true ↔ b_w < i_w ∧ wyw m_w b_w b_w = 0) := i3_w
    have hs : d_X10_beat_l167b 82 x y m_w = some (.inr u_w) := hs
    unfold d_X10_beat_l167b at hs
    rw [i2_w, hE, mk_i (by omega)] at hs
    by_cases c_w : (E_w : Int) ≤ i_w
    · rw [if_pos c_w] at hs
      have hs : (x, m_w) = u_w := Sum.inr.inj (Option.some.inj hs)
      have r_w := Prod.mk.inj (hu.trans hs.symm)
      have ie : i_w = E_w := by omega
      rw [ie] at i3_w
      rw [r_w.1, r_w.2]
      exact ⟨rfl, i3_w⟩
    · rw [if_neg c_w] at hs
      split at hs <;> cases hs
