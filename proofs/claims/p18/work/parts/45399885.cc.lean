/-! ===== cost: the class's prime cubes ===== -/
theorem ush_w (x : Int64) {v_w i_w : Nat} (hv : v_w < 64) (hi_w : i_w < 64) : mk_bt (x.toUInt64 >>> ((Int32.toInt64 (Int32.ofNat v_w)).toUInt64 &&& Int64.toUInt64 63)).toInt64 i_w = mk_bt x (i_w + v_w) := by
  have key_w : ∀ v_w, v_w < 64 → (((Int32.toInt64 (Int32.ofNat v_w)).toUInt64 &&& Int64.toUInt64 63).toBitVec % 64).toNat = v_w := by decide
  unfold mk_bt
  show ((x.toUInt64 >>> ((Int32.toInt64 (Int32.ofNat v_w)).toUInt64 &&& Int64.toUInt64 63)).toBitVec).getLsbD i_w = _
  rw [UInt64.toBitVec_shiftRight]
  show (x.toBitVec >>> (((Int32.toInt64 (Int32.ofNat v_w)).toUInt64 &&& Int64.toUInt64 63).toBitVec % 64)).getLsbD i_w = _
  rw [BitVec.ushiftRight_eq', BitVec.getLsbD_ushiftRight, key_w v_w hv, Nat.add_comm]
theorem shl_w (x : Int64) {v_w i_w : Nat} (hv : v_w < 64) (hi_w : i_w < 64) : mk_bt (x <<< ((Int32.ofNat v_w).toInt64 &&& 63)) i_w = (decide (v_w ≤ i_w) && mk_bt x (i_w - v_w)) := by
  have key_w : ∀ v_w, v_w < 64 → (((Int32.ofNat v_w).toInt64 &&& 63).toBitVec.smod 64).toNat = v_w := by decide
  unfold mk_bt
  rw [Int64.toBitVec_shiftLeft, show x.toBitVec <<< (((Int32.ofNat v_w).toInt64 &&& 63).toBitVec.smod 64) = x.toBitVec <<< (((Int32.ofNat v_w).toInt64 &&& 63).toBitVec.smod 64).toNat from rfl, key_w v_w hv, BitVec.getLsbD_shiftLeft, decide_eq_true hi_w, Bool.true_and]
  by_cases h_w : v_w ≤ i_w
  · rw [decide_eq_true h_w, decide_eq_false (by omega)]; rfl
  · rw [decide_eq_false h_w, decide_eq_true (by omega)]; rfl
theorem bthi_w (x : Int64) {i_w : Nat} (hi_w : 64 ≤ i_w) : mk_bt x i_w = false := BitVec.getLsbD_of_ge _ _ hi_w
theorem ubit_w (x : Int64) {v_w : Nat} (hv : v_w < 64) : ((x.toUInt64 >>> ((Int32.toInt64 (Int32.ofNat v_w)).toUInt64 &&& Int64.toUInt64 63)).toInt64 &&& 1) = (if mk_bt x v_w = true then 1 else 0) := by
  rw [mk_one, ush_w x hv (by decide), Nat.zero_add]
theorem ltc_w {W_w c_w : Nat} {m_w : dc_M} {G_w : Int32} (hW : W_w ≤ 6) (hc_w : c_w < 1000) (h_w : d_X8_lettersOf (Int32.ofNat c_w) (Int32.ofNat W_w) m_w = some G_w) : G_w = Int32.ofNat (LTw W_w c_w) := by
  unfold d_X8_lettersOf d_X8_lettersOf_l7 at h_w
  have sm_w : ∀ i_w, i_w ≤ W_w → cnw (fun i_w => decide (dg c_w i_w ≠ 2)) i_w ≤ 6 := fun i_w hi_w => by have := cnw.le (f := fun i_w => decide (dg c_w i_w ≠ 2)) i_w; omega
  refine dc_lp_inv (s := ((0 : Int32), Int32.ofNat c_w, (0 : Int32))) (fun s : Int32 × Int32 × Int32 => ∃ i_w : Nat, i_w ≤ W_w ∧ s.1 = Int32.ofNat (cnw (fun i_w => decide (dg c_w i_w ≠ 2)) i_w) ∧ s.2.1 = Int32.ofNat (c_w / 3 ^ i_w) ∧ s.2.2 = Int32.ofNat i_w) (fun G_w => G_w = Int32.ofNat (LTw W_w c_w)) (fun s s' hI hs => ?_) (fun s u_w hI hs => ?_) ⟨0, Nat.zero_le _, rfl, by rw [Nat.pow_zero, Nat.div_one], rfl⟩ h_w
  · obtain ⟨i_w, i1_w, i2_w, i3_w, i4_w⟩ := hI
    obtain ⟨x, y_w, z_w⟩ := s
    have i2_w : x = Int32.ofNat (cnw (fun i_w => decide (dg c_w i_w ≠ 2)) i_w) := i2_w
    have i3_w : y_w = Int32.ofNat (c_w / 3 ^ i_w) := i3_w
    have i4_w : z_w = Int32.ofNat i_w := i4_w
    have hs : d_X8_lettersOf_l7b (Int32.ofNat W_w) x y_w z_w m_w = some (.inl s') := hs
    unfold d_X8_lettersOf_l7b at hs
    rw [i2_w, i3_w, i4_w, mk_i (by omega), mk_i (by omega), md3_w hc_w, dv3_w hc_w, on_1 (show i_w < 1000 by omega)] at hs
    by_cases c1_w : (W_w : Int) ≤ i_w
    · rw [if_pos c1_w] at hs; cases hs
    · have d3_w := dg3_w c_w i_w
      have si := sm_w i_w i1_w
      rw [if_neg c1_w, mk_i (by omega)] at hs
      by_cases c2_w : (dg c_w i_w : Int) = 2
      · rw [if_pos c2_w] at hs
        have hs := Sum.inl.inj (Option.some.inj hs)
        rw [← hs]
        refine ⟨i_w + 1, by omega, ?_, rfl, rfl⟩
        rw [cnw.sc, if_neg (show ¬ decide (dg c_w i_w ≠ 2) = true from fun q_w => (of_decide_eq_true q_w) (by omega))]
        rfl
      · rw [if_neg c2_w] at hs
        have hs := Sum.inl.inj (Option.some.inj hs)
        rw [← hs]
        refine ⟨i_w + 1, by omega, ?_, rfl, rfl⟩
        rw [cnw.sc, if_pos (show decide (dg c_w i_w ≠ 2) = true from decide_eq_true (by omega))]
        exact on_1 (by omega)
  · obtain ⟨i_w, i1_w, i2_w, i3_w, i4_w⟩ := hI
    obtain ⟨x, y_w, z_w⟩ := s
    have i2_w : x = Int32.ofNat (cnw (fun i_w => decide (dg c_w i_w ≠ 2)) i_w) := i2_w
    have i4_w : z_w = Int32.ofNat i_w := i4_w
    have hs : d_X8_lettersOf_l7b (Int32.ofNat W_w) x y_w z_w m_w = some (.inr u_w) := hs
    unfold d_X8_lettersOf_l7b at hs
    rw [i4_w, mk_i (by omega), mk_i (by omega)] at hs
    by_cases c1_w : (W_w : Int) ≤ i_w
    · rw [if_pos c1_w] at hs
      have hs : x = u_w := Sum.inr.inj (Option.some.inj hs)
      rw [← hs, i2_w, show i_w = W_w by omega]
      rfl
    · rw [if_neg c1_w] at hs
      split at hs <;> cases hs
theorem btp_w {l i_w : Nat} (hl : l < 64) (hi_w : i_w < 6) (h_w : lc_bt l i_w = 0) : l + 2 ^ i_w < 64 ∧ lc_bt (l + 2 ^ i_w) i_w = 1 ∧ (∀ j_w, j_w < 6 → j_w ≠ i_w → lc_bt (l + 2 ^ i_w) j_w = lc_bt l j_w) ∧ ∀ W_w, W_w < 7 → i_w < W_w → l < 2 ^ W_w → l + 2 ^ i_w < 2 ^ W_w := by
  have : ((List.range 64).all fun l => (List.range 6).all fun i_w => lc_bt l i_w != 0 || (decide (l + 2 ^ i_w < 64) && decide (lc_bt (l + 2 ^ i_w) i_w = 1) && ((List.range 6).all fun j_w => j_w == i_w || decide (lc_bt (l + 2 ^ i_w) j_w = lc_bt l j_w)) && (List.range 7).all fun W_w => decide (W_w ≤ i_w) || decide (2 ^ W_w ≤ l) || decide (l + 2 ^ i_w < 2 ^ W_w))) = true := by decide +kernel
  have t_w := List.all_eq_true.mp (List.all_eq_true.mp this l (List.mem_range.mpr hl)) i_w (List.mem_range.mpr hi_w)
  rw [h_w] at t_w
  simp only [Bool.or_eq_true, Bool.and_eq_true, decide_eq_true_eq, List.all_eq_true, List.mem_range, beq_iff_eq, bne_self_eq_false, Bool.false_eq_true, false_or] at t_w
  obtain ⟨⟨⟨t1_w, t2_w⟩, t3_w⟩, t4_w⟩ := t_w
  exact ⟨t1_w, t2_w, fun j_w hj ne_w => (t3_w j_w hj).resolve_left ne_w, fun W_w hW hi_w hl => ((t4_w W_w hW).resolve_left (fun q_w => by rcases q_w with q_w | q_w <;> omega))⟩
theorem btm_w {l i_w : Nat} (hl : l < 64) (hi_w : i_w < 6) (h_w : lc_bt l i_w = 1) : 2 ^ i_w ≤ l ∧ lc_bt (l - 2 ^ i_w) i_w = 0 ∧ lc_bt (l + 2 ^ i_w) i_w = 0 := by
  have : ((List.range 64).all fun l => (List.range 6).all fun i_w => lc_bt l i_w != 1 || (decide (2 ^ i_w ≤ l) && decide (lc_bt (l - 2 ^ i_w) i_w = 0) && decide (lc_bt (l + 2 ^ i_w) i_w = 0))) = true := by decide +kernel
  have t_w := List.all_eq_true.mp (List.all_eq_true.mp this l (List.mem_range.mpr hl)) i_w (List.mem_range.mpr hi_w)
  rw [h_w] at t_w
  simp only [Bool.or_eq_true, Bool.and_eq_true, decide_eq_true_eq, bne_self_eq_false, Bool.false_eq_true, false_or] at t_w
  exact ⟨t_w.1.1, t_w.1.2, t_w.2⟩
/-- a letter dropped: what comes in -/
theorem up0_w {W_w c_w i_w : Nat} {X off_w : Int64} (hW : W_w ≤ 6) (hc_w : c_w < 3 ^ W_w) (hi_w : i_w < W_w) (hX : lv_X W_w c_w (2 ^ W_w) X) (no_w : ¬ lc_hit off_w W_w c_w) (d_w : dg c_w i_w = 0) : (X <<< ((Int32.ofNat (2 ^ i_w)).toInt64 &&& 63)) &&& off_w = 0 ↔ ¬ lc_hit off_w W_w (lc_up c_w i_w) := by
  have h3 := lc_p3 hW
  have h2 := lc_p2 hW
  have i5_w : 2 ^ i_w ≤ 32 := Nat.pow_le_pow_right (n := 2) (by decide) (show i_w ≤ 5 by omega)
  rw [mk_eq0]
  constructor
  · rintro q_w ⟨l, l1, l2, l3⟩
    have l64_w : l < 64 := by omega
    rcases bt2_w l i_w with b_w | b_w
    · refine no_w ⟨l, l1, l2, fun j_w hj => ?_⟩
      by_cases e_w : j_w = i_w
      · rw [e_w, d_w, b_w]; exact Or.inr rfl
      · have := l3 j_w hj
        rw [lc_dgup (by omega) (by omega) (by omega), if_neg e_w] at this
        exact this
    · obtain ⟨m1_w, m2_w, -⟩ := btm_w l64_w (show i_w < 6 by omega) b_w
      obtain ⟨-, -, p3_w, -⟩ := btp_w (show l - 2 ^ i_w < 64 from Nat.lt_of_le_of_lt (Nat.sub_le _ _) l64_w) (show i_w < 6 by omega) m2_w
      rw [show l - 2 ^ i_w + 2 ^ i_w = l from Nat.sub_add_cancel m1_w] at p3_w
      have := q_w l l64_w
      rw [mk_and, shl_w X (by omega) l64_w, decide_eq_true m1_w, Bool.true_and, l2, Bool.and_true, (hX (l - 2 ^ i_w) (Nat.lt_of_le_of_lt (Nat.sub_le _ _) l64_w)).mpr ⟨Nat.lt_of_le_of_lt (Nat.sub_le _ _) l1, fun j_w hj => ?_⟩] at this
      · cases this
      · by_cases e_w : j_w = i_w
        · rw [e_w, d_w, m2_w]; exact Or.inr rfl
        · have := l3 j_w hj
          rw [lc_dgup (by omega) (by omega) (by omega), if_neg e_w, p3_w j_w (by omega) e_w] at this
          exact this
  · intro q_w l l64_w
    refine eq_false_of_ne_true (fun b_w => q_w ?_)
    rw [mk_and, shl_w X (by omega) l64_w, Bool.and_eq_true, Bool.and_eq_true, decide_eq_true_eq] at b_w
    obtain ⟨⟨b1, b2⟩, b3⟩ := b_w
    obtain ⟨x1_w, x2_w⟩ := (hX (l - 2 ^ i_w) (Nat.lt_of_le_of_lt (Nat.sub_le _ _) l64_w)).mp b2
    have z_w : lc_bt (l - 2 ^ i_w) i_w = 0 := by
      have := x2_w i_w hi_w
      rw [d_w] at this
      omega
    obtain ⟨-, p2_w, p3_w, p4_w⟩ := btp_w (show l - 2 ^ i_w < 64 from Nat.lt_of_le_of_lt (Nat.sub_le _ _) l64_w) (show i_w < 6 by omega) z_w
    rw [show l - 2 ^ i_w + 2 ^ i_w = l from Nat.sub_add_cancel b1] at p2_w p3_w p4_w
    refine ⟨l, p4_w W_w (by omega) hi_w x1_w, b3, fun j_w hj => ?_⟩
    rw [lc_dgup (by omega) (by omega) (by omega)]
    by_cases e_w : j_w = i_w
    · rw [if_pos e_w]; exact Or.inl rfl
    · rw [if_neg e_w, p3_w j_w (by omega) e_w]
      exact x2_w j_w hj
theorem up1_w {W_w c_w i_w : Nat} {X off_w : Int64} (hW : W_w ≤ 6) (hc_w : c_w < 3 ^ W_w) (hi_w : i_w < W_w) (hX : lv_X W_w c_w (2 ^ W_w) X) (no_w : ¬ lc_hit off_w W_w c_w) (d_w : dg c_w i_w = 1) : (X.toUInt64 >>> ((Int32.toInt64 (Int32.ofNat (2 ^ i_w))).toUInt64 &&& Int64.toUInt64 63)).toInt64 &&& off_w = 0 ↔ ¬ lc_hit off_w W_w (lc_up c_w i_w) := by
  have h3 := lc_p3 hW
  have h2 := lc_p2 hW
  have i5_w : 2 ^ i_w ≤ 32 := Nat.pow_le_pow_right (n := 2) (by decide) (show i_w ≤ 5 by omega)
  rw [mk_eq0]
  constructor
  · rintro q_w ⟨l, l1, l2, l3⟩
    have l64_w : l < 64 := by omega
    rcases bt2_w l i_w with b_w | b_w
    · obtain ⟨p1_w, p2_w, p3_w, p4_w⟩ := btp_w l64_w (show i_w < 6 by omega) b_w
      have := q_w l l64_w
      rw [mk_and, ush_w X (by omega) l64_w, l2, Bool.and_true, (hX (l + 2 ^ i_w) p1_w).mpr ⟨p4_w W_w (by omega) hi_w l1, fun j_w hj => ?_⟩] at this
      · cases this
      · by_cases e_w : j_w = i_w
        · rw [e_w, d_w, p2_w]; exact Or.inr rfl
        · have := l3 j_w hj
          rw [lc_dgup (by omega) (by omega) (by omega), if_neg e_w] at this
          rw [p3_w j_w (by omega) e_w]
          exact this
    · refine no_w ⟨l, l1, l2, fun j_w hj => ?_⟩
      by_cases e_w : j_w = i_w
      · rw [e_w, d_w, b_w]; exact Or.inr rfl
      · have := l3 j_w hj
        rw [lc_dgup (by omega) (by omega) (by omega), if_neg e_w] at this
        exact this
  · intro q_w l l64_w
    refine eq_false_of_ne_true (fun b_w => q_w ?_)
    rw [mk_and, ush_w X (by omega) l64_w, Bool.and_eq_true] at b_w
    obtain ⟨b2, b3⟩ := b_w
    have s64 : l + 2 ^ i_w < 64 := Nat.not_le.mp (fun z_w => by rw [bthi_w X z_w] at b2; cases b2)
    obtain ⟨x1_w, x2_w⟩ := (hX (l + 2 ^ i_w) s64).mp b2
    have o : lc_bt (l + 2 ^ i_w) i_w = 1 := by
      have := x2_w i_w hi_w
      rw [d_w] at this
      omega
    have z_w : lc_bt l i_w = 0 := by
      rcases bt2_w l i_w with b_w | b_w
      · exact b_w
      · have := (btm_w l64_w (show i_w < 6 by omega) b_w).2.2
        omega
    obtain ⟨-, p2_w, p3_w, p4_w⟩ := btp_w l64_w (show i_w < 6 by omega) z_w
    refine ⟨l, Nat.lt_of_le_of_lt (Nat.le_add_right _ _) x1_w, b3, fun j_w hj => ?_⟩
    rw [lc_dgup (by omega) (by omega) (by omega)]
    by_cases e_w : j_w = i_w
    · rw [if_pos e_w]; exact Or.inl rfl
    · rw [if_neg e_w, ← p3_w j_w (by omega) e_w]
      exact x2_w j_w hj
theorem isp_w {W_w c_w : Nat} {m_w : dc_M} {X off_w : Int64} {q_w : Int32} (hW : W_w ≤ 6) (hc_w : c_w < 3 ^ W_w) (hX : lv_X W_w c_w (2 ^ W_w) X) (no_w : ¬ lc_hit off_w W_w c_w) (h_w : d_X1_isPrime (Int32.ofNat c_w) X off_w (Int32.ofNat W_w) m_w = some q_w) : (q_w = 1 ∧ ∀ i_w, i_w < W_w → dg c_w i_w ≠ 2 → lc_hit off_w W_w (lc_up c_w i_w)) ∨ (q_w = 0 ∧ ¬ ∀ i_w, i_w < W_w → dg c_w i_w ≠ 2 → lc_hit off_w W_w (lc_up c_w i_w)) := by
  have h3 := lc_p3 hW
  unfold d_X1_isPrime d_X1_isPrime_l6 at h_w
  have step_w : ∀ (i_w : Nat) (r_w : (Int32 × Int32) ⊕ Int32), i_w < W_w → d_X1_isPrime_l6b X off_w (Int32.ofNat W_w) (Int32.ofNat (c_w / 3 ^ i_w)) (Int32.ofNat i_w) m_w = some r_w → (r_w = .inl (Int32.ofNat (c_w / 3 ^ (i_w + 1)), Int32.ofNat (i_w + 1)) ∧ (dg c_w i_w ≠ 2 → lc_hit off_w W_w (lc_up c_w i_w))) ∨ (r_w = .inr 0 ∧ dg c_w i_w ≠ 2 ∧ ¬ lc_hit off_w W_w (lc_up c_w i_w)) := fun i_w r_w hi_w hz => by
    have d3_w := dg3_w c_w i_w
    have sh_w : (1 : Int32) <<< (Int32.ofNat i_w &&& 31) = Int32.ofNat (2 ^ i_w) := lc_two (show i_w ≤ 6 by omega)
    unfold d_X1_isPrime_l6b d_X1_isPrime_b47 at hz
    rw [mk_i (by omega), mk_i (by omega), if_neg (show ¬ (W_w : Int) ≤ i_w by omega), md3_w (by omega), dv3_w (by omega), mk_i (by omega), sh_w, on_1 (by omega)] at hz
    by_cases c0_w : (dg c_w i_w : Int) = 0
    · have u_w := up0_w hW hc_w hi_w hX no_w (show dg c_w i_w = 0 by omega)
      rw [if_neg (fun q_w => q_w c0_w), if_pos (show ¬ (dg c_w i_w : Int) = 1 by omega)] at hz
      by_cases k_w : (X <<< ((Int32.ofNat (2 ^ i_w)).toInt64 &&& 63)) &&& off_w = 0
      · rw [if_pos (cz_w.mpr k_w)] at hz
        exact Or.inr ⟨(Option.some.inj hz).symm, by omega, u_w.mp k_w⟩
      · rw [if_neg (fun q_w => k_w (cz_w.mp q_w))] at hz
        exact Or.inl ⟨(Option.some.inj hz).symm, fun _ => Classical.not_not.mp (fun q_w => k_w (u_w.mpr q_w))⟩
    · rw [if_pos c0_w] at hz
      by_cases c1_w : (dg c_w i_w : Int) = 1
      · have u_w := up1_w hW hc_w hi_w hX no_w (show dg c_w i_w = 1 by omega)
        rw [if_neg (fun q_w => q_w c1_w)] at hz
        by_cases k_w : (X.toUInt64 >>> ((Int32.toInt64 (Int32.ofNat (2 ^ i_w))).toUInt64 &&& Int64.toUInt64 63)).toInt64 &&& off_w = 0
        · rw [if_neg (fun q_w => q_w (cz_w.mpr k_w))] at hz
          exact Or.inr ⟨(Option.some.inj hz).symm, by omega, u_w.mp k_w⟩
        · rw [if_pos (fun q_w => k_w (cz_w.mp q_w))] at hz
          exact Or.inl ⟨(Option.some.inj hz).symm, fun _ => Classical.not_not.mp (fun q_w => k_w (u_w.mpr q_w))⟩
      · rw [if_pos c1_w] at hz
        exact Or.inl ⟨(Option.some.inj hz).symm, fun q_w => by omega⟩
  refine dc_lp_inv (s := (Int32.ofNat c_w, (0 : Int32))) (fun s : Int32 × Int32 => ∃ i_w : Nat, i_w ≤ W_w ∧ s.1 = Int32.ofNat (c_w / 3 ^ i_w) ∧ s.2 = Int32.ofNat i_w ∧ ∀ j_w, j_w < i_w → dg c_w j_w ≠ 2 → lc_hit off_w W_w (lc_up c_w j_w)) (fun q_w => (q_w = 1 ∧ ∀ i_w, i_w < W_w → dg c_w i_w ≠ 2 → lc_hit off_w W_w (lc_up c_w i_w)) ∨ (q_w = 0 ∧ ¬ ∀ i_w, i_w < W_w → dg c_w i_w ≠ 2 → lc_hit off_w W_w (lc_up c_w i_w))) (fun s s' hI hs => ?_) (fun s u_w hI hs => ?_) ⟨0, Nat.zero_le _, by rw [Nat.pow_zero, Nat.div_one], rfl, fun j_w hj => absurd hj (Nat.not_lt_zero j_w)⟩ h_w
  · obtain ⟨i_w, i1_w, i2_w, i3_w, i4_w⟩ := hI
    obtain ⟨x, y_w⟩ := s
    have i2_w : x = Int32.ofNat (c_w / 3 ^ i_w) := i2_w
    have i3_w : y_w = Int32.ofNat i_w := i3_w
    have hs : d_X1_isPrime_l6b X off_w (Int32.ofNat W_w) x y_w m_w = some (.inl s') := hs
    rw [i2_w, i3_w] at hs
    by_cases k_w : i_w < W_w
    · rcases step_w i_w _ k_w hs with ⟨r1_w, r2⟩ | ⟨r1_w, -⟩
      · have r1_w := Sum.inl.inj r1_w
        rw [r1_w]
        refine ⟨i_w + 1, k_w, rfl, rfl, fun j_w hj => ?_⟩
        by_cases e_w : j_w = i_w
        · rw [e_w]; exact r2
        · exact i4_w j_w (by omega)
      · cases r1_w
    · unfold d_X1_isPrime_l6b at hs
      rw [mk_i (by omega), mk_i (by omega), if_pos (show (W_w : Int) ≤ i_w by omega)] at hs
      cases hs
  · obtain ⟨i_w, i1_w, i2_w, i3_w, i4_w⟩ := hI
    obtain ⟨x, y_w⟩ := s
    have i2_w : x = Int32.ofNat (c_w / 3 ^ i_w) := i2_w
    have i3_w : y_w = Int32.ofNat i_w := i3_w
    have hs : d_X1_isPrime_l6b X off_w (Int32.ofNat W_w) x y_w m_w = some (.inr u_w) := hs
    rw [i2_w, i3_w] at hs
    by_cases k_w : i_w < W_w
    · rcases step_w i_w _ k_w hs with ⟨r1_w, r2⟩ | ⟨r1_w, r2, r3⟩
      · cases r1_w
      · exact Or.inr ⟨Sum.inr.inj r1_w, fun q_w => r3 (q_w i_w k_w r2)⟩
    · unfold d_X1_isPrime_l6b at hs
      rw [mk_i (by omega), mk_i (by omega), if_pos (show (W_w : Int) ≤ i_w by omega)] at hs
      rw [show i_w = W_w by omega] at i4_w
      exact Or.inl ⟨(Sum.inr.inj (Option.some.inj hs)).symm, i4_w⟩
/-- the class's primes so far -/
def GPw (on_w off_w : Int64) (W_w c_w : Nat) (m0_w z_w : dc_M) : Prop := ((∀ b_w, b_w ≠ 21 → b_w ≠ 23 → b_w ≠ 24 → z_w.1 b_w = m0_w.1 b_w) ∧ (∀ k_w, k_w ≠ 1 → z_w.1 21 k_w = m0_w.1 21 k_w) ∧ (∀ b_w, b_w ≠ 25 → z_w.2.1 b_w = m0_w.2.1 b_w) ∧ z_w.2.2 = m0_w.2.2) ∧ z_w.1 21 1 = Int32.ofNat (PNw on_w off_w W_w c_w) ∧ ∀ c', c' < c_w → lc_prime on_w off_w W_w c' → z_w.1 23 (PNw on_w off_w W_w c') = Int32.ofNat c' ∧ z_w.1 24 (PNw on_w off_w W_w c') = Int32.ofNat (256 + LTw W_w c') ∧ lv_X W_w c' (2 ^ W_w) (z_w.2.1 25 (PNw on_w off_w W_w c'))
theorem gp1_w {W_w c_w : Nat} {on_w off_w : Int64} {m0_w z_w : dc_M} {all_w : Int32} {r_w : (Int32 × dc_M) ⊕ dc_M} (hW : W_w ≤ 6) (ha_w : all_w.toInt = ((3 ^ W_w : Nat) : Int)) (hc_w : c_w ≤ 3 ^ W_w) (L_w : GPw on_w off_w W_w c_w m0_w z_w) (h_w : d_X1_gatherPrimes_l8b 21 on_w off_w (Int32.ofNat W_w) all_w (Int32.ofNat c_w) z_w = some r_w) : (c_w = 3 ^ W_w ∧ ∃ y_w, r_w = .inr y_w ∧ d_X1_weighLevels 21 on_w z_w = some y_w) ∨ (c_w < 3 ^ W_w ∧ ∃ y_w, r_w = .inl (Int32.ofNat (c_w + 1), y_w) ∧ GPw on_w off_w W_w (c_w + 1) m0_w y_w) := by
  have h3 := lc_p3 hW
  have c1_w : Int32.ofNat c_w + 1 = Int32.ofNat (c_w + 1) := on_1 (by omega)
  unfold d_X1_gatherPrimes_l8b d_X1_gatherPrimes_b121 at h_w
  rw [ha_w, mk_i (by omega), c1_w] at h_w
  by_cases c2_w : ((3 ^ W_w : Nat) : Int) ≤ c_w
  · rw [if_pos c2_w] at h_w
    left
    refine ⟨by omega, ?_⟩
    cases hq : d_X1_weighLevels 21 on_w z_w with
    | none => rw [hq] at h_w; cases h_w
    | some y_w =>
      rw [hq] at h_w
      exact ⟨y_w, (Option.some.inj h_w).symm, rfl⟩
  · right
    refine ⟨by omega, ?_⟩
    rw [if_neg c2_w, if_neg (show ¬ (729 : Int) ≤ c_w by omega)] at h_w
    obtain ⟨X, hX, h_w⟩ := Option.bind_eq_some_iff.mp h_w
    have hX := li_run hW (show c_w < 1000 by omega) hX
    have k1_w := lc_hx (S := off_w) hW hX
    have k2_w := lc_hx (S := on_w) hW hX
    have skip_w : ¬ lc_prime on_w off_w W_w c_w → some (Sum.inl (Int32.ofNat (c_w + 1), z_w)) = some r_w → ∃ y_w, r_w = .inl (Int32.ofNat (c_w + 1), y_w) ∧ GPw on_w off_w W_w (c_w + 1) m0_w y_w := fun np hr => by
      refine ⟨z_w, (Option.some.inj hr).symm, L_w.1, by rw [PNw.n np]; exact L_w.2.1, fun c' hc' p_w => ?_⟩
      by_cases e_w : c' = c_w
      · rw [e_w] at p_w; exact absurd p_w np
      · exact L_w.2.2 c' (by omega) p_w
    by_cases z1 : X &&& off_w = 0
    · rw [if_neg (fun q_w => q_w (cz_w.mpr z1))] at h_w
      by_cases z2 : X &&& on_w = 0
      · rw [if_pos (cz_w.mpr z2)] at h_w
        exact skip_w (fun p_w => k2_w.mp z2 p_w.2.1) h_w
      · rw [if_neg (fun q_w => z2 (cz_w.mp q_w))] at h_w
        obtain ⟨q_w, hq, h_w⟩ := Option.bind_eq_some_iff.mp h_w
        rcases isp_w hW (by omega) hX (k1_w.mp z1) hq with ⟨q1_w, q2_w⟩ | ⟨q1_w, q2_w⟩
        · have pr : lc_prime on_w off_w W_w c_w := ⟨k1_w.mp z1, Classical.not_not.mp (fun q_w => z2 (k2_w.mpr q_w)), q2_w⟩
          rw [q1_w, if_neg (show ¬ (1 : Int32).toInt = 0 by decide)] at h_w
          obtain ⟨g_w, hg, h_w⟩ := Option.bind_eq_some_iff.mp h_w
          obtain ⟨⟨l1, l2, l3, l4⟩, l5, l6⟩ := L_w
          obtain ⟨n, hn⟩ : ∃ n, PNw on_w off_w W_w c_w = n := ⟨_, rfl⟩
          have nl : n ≤ c_w := by rw [← hn]; exact PNw.le c_w
          rw [hn] at l5
          have e1_w : ∀ k_w v_w, (dc_wi z_w (21 + 2) k_w v_w).1 21 1 = Int32.ofNat n := fun k_w v_w => (wi_k (by omega)).trans l5
          have e2_w : ∀ (M_w : dc_M) k_w v_w, (dc_wi M_w (21 + 3) k_w v_w).1 21 1 = M_w.1 21 1 := fun M_w k_w v_w => wi_k (by omega)
          have e3_w : (Int32.ofNat n).toNatClampNeg = n := on_n (by omega)
          have e4_w : ∀ (M_w : dc_M) a k_w v_w, (dc_wl M_w a k_w v_w).1 = M_w.1 := fun _ _ _ _ => rfl
          simp only [e4_w, e2_w, e1_w, l5, e3_w] at h_w hg
          have g0 := ltc_w hW (show c_w < 1000 by omega) hg
          obtain ⟨Y, hY⟩ : ∃ Y, dc_wi (dc_wl (dc_wi (dc_wi z_w 23 n (Int32.ofNat c_w)) 24 n (256 + g_w)) 25 n X) 21 1 (Int32.ofNat n + 1) = Y := ⟨_, rfl⟩
          have h_w : some (Sum.inl (Int32.ofNat (c_w + 1), Y)) = some r_w := by rw [← hY]; exact h_w
          refine ⟨Y, (Option.some.inj h_w).symm, ⟨fun b_w b1 b2 b3 => ?_, fun k_w hk => ?_, fun b_w hb_w => ?_, ?_⟩, ?_, fun c' hc' p_w => ?_⟩
          · rw [← hY]
            refine funext (fun k_w => ?_)
            rw [wi_k (by omega)]
            show (dc_wi (dc_wi z_w 23 n (Int32.ofNat c_w)) 24 n (256 + g_w)).1 b_w k_w = _
            rw [wi_k (by omega), wi_k (by omega), l1 b_w b1 b2 b3]
          · rw [← hY, wi_k (by omega)]
            show (dc_wi (dc_wi z_w 23 n (Int32.ofNat c_w)) 24 n (256 + g_w)).1 21 k_w = _
            rw [wi_k (by omega), wi_k (by omega), l2 k_w hk]
          · rw [← hY]
            exact (funext (fun k_w => wlw_k (by omega))).trans (l3 b_w hb_w)
          · rw [← hY]
            exact l4
          · rw [← hY, wi_s, PNw.y pr, hn]
            exact on_1 (by omega)
          · by_cases e_w : c' = c_w
            · rw [e_w, hn]
              refine ⟨?_, ?_, ?_⟩
              · rw [← hY, wi_k (by omega)]
                show (dc_wi (dc_wi z_w 23 n (Int32.ofNat c_w)) 24 n (256 + g_w)).1 23 n = _
                rw [wi_k (by omega), wi_s]
              · rw [← hY, wi_k (by omega)]
                show (dc_wi (dc_wi z_w 23 n (Int32.ofNat c_w)) 24 n (256 + g_w)).1 24 n = _
                rw [wi_s, g0, show (256 : Int32) = Int32.ofNat 256 from rfl]
                exact lc_add (by have := @LTw.le W_w c_w; omega)
              · rw [← hY]
                show lv_X W_w c_w (2 ^ W_w) ((dc_wl (dc_wi (dc_wi z_w 23 n (Int32.ofNat c_w)) 24 n (256 + g_w)) 25 n X).2.1 25 n)
                rw [wlw_s]
                exact hX
            · have lt_w := PNw.lt (show c' < c_w by omega) p_w
              rw [hn] at lt_w
              obtain ⟨q1_w, q2_w, q3_w⟩ := l6 c' (by omega) p_w
              refine ⟨?_, ?_, ?_⟩
              · rw [← hY, wi_k (by omega)]
                show (dc_wi (dc_wi z_w 23 n (Int32.ofNat c_w)) 24 n (256 + g_w)).1 23 _ = _
                rw [wi_k (by omega), wi_k (by omega)]
                exact q1_w
              · rw [← hY, wi_k (by omega)]
                show (dc_wi (dc_wi z_w 23 n (Int32.ofNat c_w)) 24 n (256 + g_w)).1 24 _ = _
                rw [wi_k (by omega), wi_k (by omega)]
                exact q2_w
              · rw [← hY]
                show lv_X W_w c' (2 ^ W_w) ((dc_wl (dc_wi (dc_wi z_w 23 n (Int32.ofNat c_w)) 24 n (256 + g_w)) 25 n X).2.1 25 _)
                rw [wlw_k (by omega)]
                exact q3_w
        · rw [q1_w, if_pos (show (0 : Int32).toInt = 0 from rfl)] at h_w
          exact skip_w (fun p_w => q2_w p_w.2.2) h_w
    · rw [if_pos (fun q_w => z1 (cz_w.mp q_w))] at h_w
      exact skip_w (fun p_w => z1 (k1_w.mpr p_w.1)) h_w
theorem gp_w {W_w : Nat} {on_w off_w : Int64} {m0_w m' : dc_M} {all_w : Int32} (hW : W_w ≤ 6) (ha_w : all_w.toInt = ((3 ^ W_w : Nat) : Int)) (h_w : d_X1_gatherPrimes 21 on_w off_w (Int32.ofNat W_w) all_w m0_w = some m') : ∃ z_w, GPw on_w off_w W_w (3 ^ W_w) m0_w z_w ∧ d_X1_weighLevels 21 on_w z_w = some m' := by
  unfold d_X1_gatherPrimes d_X1_gatherPrimes_l8 at h_w
  refine dc_lp_inv (s := ((0 : Int32), dc_wi m0_w 21 1 0)) (fun s : Int32 × dc_M => ∃ c_w : Nat, c_w ≤ 3 ^ W_w ∧ s.1 = Int32.ofNat c_w ∧ GPw on_w off_w W_w c_w m0_w s.2) (fun u_w => ∃ z_w, GPw on_w off_w W_w (3 ^ W_w) m0_w z_w ∧ d_X1_weighLevels 21 on_w z_w = some u_w) (fun s s' hI hs => ?_) (fun s u_w hI hs => ?_) ⟨0, Nat.zero_le _, rfl, ⟨fun b_w b1 _ _ => funext (fun k_w => wi_k (by omega)), fun k_w hk => wi_k (by omega), fun _ _ => rfl, rfl⟩, wi_s, fun c' hc' => absurd hc' (Nat.not_lt_zero c')⟩ h_w
  · obtain ⟨c_w, i1_w, i2_w, i3_w⟩ := hI
    have hs : d_X1_gatherPrimes_l8b 21 on_w off_w (Int32.ofNat W_w) all_w s.1 s.2 = some (.inl s') := hs
    rw [i2_w] at hs
    rcases gp1_w hW ha_w i1_w i3_w hs with ⟨-, y_w, r_w, -⟩ | ⟨c2_w, y_w, r1_w, r2⟩
    · cases r_w
    · have r1_w := Sum.inl.inj r1_w
      rw [r1_w]
      exact ⟨c_w + 1, c2_w, rfl, r2⟩
  · obtain ⟨c_w, i1_w, i2_w, i3_w⟩ := hI
    have hs : d_X1_gatherPrimes_l8b 21 on_w off_w (Int32.ofNat W_w) all_w s.1 s.2 = some (.inr u_w) := hs
    rw [i2_w] at hs
    rcases gp1_w hW ha_w i1_w i3_w hs with ⟨r0, y_w, r1_w, r2⟩ | ⟨c2_w, y_w, r1_w, r2⟩
    · rw [Sum.inr.inj r1_w]
      rw [r0] at i3_w
      exact ⟨s.2, i3_w, r2⟩
    · cases r1_w
