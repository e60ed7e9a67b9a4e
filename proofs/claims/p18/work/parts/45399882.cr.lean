/-! ===== cost: the reference's point and its hopeless searches ===== -/
theorem cb1_w {b_w : Bool} : (lg_cmp (if b_w = true then (1 : Int64) else 0) 1).toInt = 0 ↔ b_w = true := by
  cases b_w <;> decide
theorem cb0_w {b_w : Bool} : (lg_cmp (if b_w = true then (1 : Int64) else 0) 0).toInt = 0 ↔ b_w = false := by
  cases b_w <;> decide
theorem cz_w {x_w : Int64} : (lg_cmp x_w 0).toInt = 0 ↔ x_w = 0 := by
  rw [lc_w]
  exact ⟨fun h_w => Int64.toInt_inj.mp h_w, fun h_w => by rw [h_w]⟩
theorem hin_w {n_w v_w : Nat} {X_w : Int64} {x3 x4_w : Int32} {m_w : dc_M} {r_w : (Int32 × Int32 × Int32) ⊕ Int32} (hn : m_w.1 82 49 = Int32.ofNat n_w) (n7 : n_w ≤ 729) (hv : v_w < 64) (h_w : d_X10_hardest_l35 82 X_w x3 x4_w (Int32.ofNat v_w) 0 0 m_w = some r_w) : ∃ c_w : Nat, c_w ≤ 729 ∧ d_X10_hardest_b68 82 X_w x3 x4_w (Int32.ofNat v_w) (Int32.ofNat c_w) m_w = some r_w := by
  unfold d_X10_hardest_l35 at h_w
  refine dc_lp_inv (s := ((0 : Int32), (0 : Int32))) (fun s : Int32 × Int32 => ∃ c_w j_w : Nat, c_w ≤ j_w ∧ j_w ≤ n_w ∧ s.1 = Int32.ofNat c_w ∧ s.2 = Int32.ofNat j_w) (fun r_w => ∃ c_w : Nat, c_w ≤ 729 ∧ d_X10_hardest_b68 82 X_w x3 x4_w (Int32.ofNat v_w) (Int32.ofNat c_w) m_w = some r_w) (fun s s' hI hs => ?_) (fun s u_w hI hs => ?_) ⟨0, 0, Nat.le_refl _, Nat.zero_le _, rfl, rfl⟩ h_w
  · obtain ⟨c_w, j_w, i1_w, i2_w, i3, i4_w⟩ := hI
    obtain ⟨x_w, y_w⟩ := s
    have i3 : x_w = Int32.ofNat c_w := i3
    have i4_w : y_w = Int32.ofNat j_w := i4_w
    have hs : d_X10_hardest_l35b 82 X_w x3 x4_w (Int32.ofNat v_w) x_w y_w m_w = some (.inl s') := hs
    unfold d_X10_hardest_l35b at hs
    rw [i3, i4_w, hn, mk_i (by omega), mk_i (by omega)] at hs
    by_cases q_w : (n_w : Int) ≤ j_w
    · rw [if_pos q_w] at hs
      generalize d_X10_hardest_b68 82 X_w x3 x4_w (Int32.ofNat v_w) (Int32.ofNat c_w) m_w = o at hs
      cases o with
      | none => cases hs
      | some o => cases hs
    · rw [if_neg q_w, mk_bit _ hv, on_1 (by omega)] at hs
      have hs := Sum.inl.inj (Option.some.inj hs)
      rw [← hs]
      by_cases b_w : mk_bt (m_w.2.1 (82 + 22) (Int32.ofNat j_w).toNatClampNeg) v_w = true
      · refine ⟨c_w + 1, j_w + 1, by omega, by omega, ?_, rfl⟩
        rw [if_pos b_w]
        exact on_1 (by omega)
      · refine ⟨c_w, j_w + 1, by omega, by omega, ?_, rfl⟩
        rw [if_neg b_w]
        exact Int32.add_zero _
  · obtain ⟨c_w, j_w, i1_w, i2_w, i3, i4_w⟩ := hI
    obtain ⟨x_w, y_w⟩ := s
    have i3 : x_w = Int32.ofNat c_w := i3
    have i4_w : y_w = Int32.ofNat j_w := i4_w
    have hs : d_X10_hardest_l35b 82 X_w x3 x4_w (Int32.ofNat v_w) x_w y_w m_w = some (.inr u_w) := hs
    unfold d_X10_hardest_l35b at hs
    rw [i3, i4_w, hn, mk_i (by omega), mk_i (by omega)] at hs
    by_cases q_w : (n_w : Int) ≤ j_w
    · rw [if_pos q_w] at hs
      cases ho : d_X10_hardest_b68 82 X_w x3 x4_w (Int32.ofNat v_w) (Int32.ofNat c_w) m_w with
      | none => rw [ho] at hs; cases hs
      | some o =>
        rw [ho] at hs
        have hs : o = u_w := Sum.inr.inj (Option.some.inj hs)
        exact ⟨c_w, by omega, by rw [ho, hs]⟩
    · rw [if_neg q_w] at hs; cases hs
theorem hds_w {n_w : Nat} {X_w : Int64} {b_w : Int32} {m_w : dc_M} (hn : m_w.1 82 49 = Int32.ofNat n_w) (n7 : n_w ≤ 729) (h_w : d_X10_hardest 82 X_w m_w = some b_w) : hd_R X_w b_w := by
  unfold d_X10_hardest d_X10_hardest_l11 at h_w
  refine dc_lp_inv (s := ((-4 : Int32), (1000 : Int32), (0 : Int32))) (fun s : Int32 × Int32 × Int32 => ∃ v_w : Nat, v_w ≤ 64 ∧ s.2.2 = Int32.ofNat v_w ∧ hd_I X_w s.1 s.2.1 v_w) (fun b_w => hd_R X_w b_w) (fun s s' hI hs => ?_) (fun s u_w hI hs => ?_) ⟨0, Nat.zero_le _, rfl, Or.inl ⟨rfl, rfl, fun j_w hj => absurd hj (Nat.not_lt_zero j_w)⟩⟩ h_w
  · obtain ⟨v_w, i1_w, i2_w, i3⟩ := hI
    obtain ⟨B_w, LE, y_w⟩ := s
    have i2_w : y_w = Int32.ofNat v_w := i2_w
    have i3 : hd_I X_w B_w LE v_w := i3
    have hs : d_X10_hardest_l11b 82 X_w B_w LE y_w m_w = some (.inl s') := hs
    unfold d_X10_hardest_l11b at hs
    rw [i2_w, mk_i (by omega)] at hs
    by_cases q_w : (64 : Int) ≤ v_w
    · rw [if_pos q_w] at hs; cases hs
    · rw [if_neg q_w, mk_bit _ (by omega)] at hs
      by_cases b_w : mk_bt X_w v_w = true
      · rw [if_neg (fun z_w => z_w (cb1_w.mpr b_w))] at hs
        obtain ⟨c_w, c1_w, c2_w⟩ := hin_w hn n7 (by omega) hs
        unfold d_X10_hardest_b68 d_X10_hardest_b81 at c2_w
        rw [on_1 (by omega)] at c2_w
        by_cases k_w : LE.toInt ≤ (Int32.ofNat c_w).toInt
        · rw [if_pos k_w, if_pos k_w] at c2_w
          have c2_w := Sum.inl.inj (Option.some.inj c2_w)
          rw [← c2_w]
          refine ⟨v_w + 1, by omega, rfl, ?_⟩
          rcases i3 with ⟨-, w_w, -⟩ | w_w
          · rw [w_w, mk_i (by omega), show (1000 : Int32).toInt = 1000 from rfl] at k_w; omega
          · exact Or.inr w_w
        · rw [if_neg k_w, if_neg k_w] at c2_w
          have c2_w := Sum.inl.inj (Option.some.inj c2_w)
          rw [← c2_w]
          exact ⟨v_w + 1, by omega, rfl, Or.inr ⟨v_w, by omega, rfl, b_w⟩⟩
      · rw [if_pos (fun z_w => b_w (cb1_w.mp z_w)), on_1 (by omega)] at hs
        have hs := Sum.inl.inj (Option.some.inj hs)
        rw [← hs]
        refine ⟨v_w + 1, by omega, rfl, i3.imp (fun ⟨w1_w, w2_w, w3_w⟩ => ⟨w1_w, w2_w, fun j_w hj => ?_⟩) id⟩
        by_cases e_w : j_w = v_w
        · rw [e_w]; exact eq_false_of_ne_true b_w
        · exact w3_w j_w (by omega)
  · obtain ⟨v_w, i1_w, i2_w, i3⟩ := hI
    obtain ⟨B_w, LE, y_w⟩ := s
    have i2_w : y_w = Int32.ofNat v_w := i2_w
    have i3 : hd_I X_w B_w LE v_w := i3
    have hs : d_X10_hardest_l11b 82 X_w B_w LE y_w m_w = some (.inr u_w) := hs
    unfold d_X10_hardest_l11b at hs
    rw [i2_w, mk_i (by omega)] at hs
    by_cases q_w : (64 : Int) ≤ v_w
    · rw [if_pos q_w] at hs
      have hs : B_w = u_w := Sum.inr.inj (Option.some.inj hs)
      rw [← hs]
      exact i3.imp (fun ⟨w1_w, w2_w, w3_w⟩ => ⟨w1_w, mk_eq0.mpr (fun i_w hi_w => w3_w i_w (by omega))⟩) id
    · rw [if_neg q_w, mk_bit _ (by omega)] at hs
      by_cases b_w : mk_bt X_w v_w = true
      · rw [if_neg (fun z_w => z_w (cb1_w.mpr b_w))] at hs
        obtain ⟨c_w, c1_w, c2_w⟩ := hin_w hn n7 (by omega) hs
        unfold d_X10_hardest_b68 d_X10_hardest_b81 at c2_w
        split at c2_w <;> cases c2_w
      · rw [if_pos (fun z_w => b_w (cb1_w.mp z_w))] at hs; cases hs
/-- what the cubes of a_w level have, and the fewest letters -/
theorem hpi_w {n_w v_w : Nat} {x3 x4_w x7 x8 : Int32} {x5_w : Int64} {m_w : dc_M} {r_w : (Int64 × Int32 × Int32 × Int32) ⊕ Int32} (hn : m_w.1 82 49 = Int32.ofNat n_w) (n7 : n_w ≤ 729) (hc_w : ∀ k_w, k_w < n_w → 0 ≤ (m_w.1 105 k_w).toInt ∧ (m_w.1 105 k_w).toInt ≤ 6) (hv : v_w < 64) (h_w : d_X10_isHopeless_l47 82 x3 x4_w x5_w x7 x8 (Int32.ofNat v_w) 7 0 0 m_w = some r_w) : ∃ FE NE, hp_J (m_w.2.1 104) (m_w.1 105) v_w n_w FE NE ∧ r_w = .inl (x5_w &&& (NE ^^^ -1), x7 + 1, x8 + FE, Int32.ofNat v_w + 1) := by
  unfold d_X10_isHopeless_l47 at h_w
  refine dc_lp_inv (s := ((7 : Int32), (0 : Int64), (0 : Int32))) (fun s : Int32 × Int64 × Int32 => ∃ j_w : Nat, j_w ≤ n_w ∧ s.2.2 = Int32.ofNat j_w ∧ hp_J (m_w.2.1 104) (m_w.1 105) v_w j_w s.1 s.2.1) (fun r_w => ∃ FE NE, hp_J (m_w.2.1 104) (m_w.1 105) v_w n_w FE NE ∧ r_w = .inl (x5_w &&& (NE ^^^ -1), x7 + 1, x8 + FE, Int32.ofNat v_w + 1)) (fun s s' hI hs => ?_) (fun s u_w hI hs => ?_) ⟨0, Nat.zero_le _, rfl, (show 0 ≤ (7 : Int32).toInt ∧ (7 : Int32).toInt ≤ 7 by decide), fun j_w hj => absurd hj (Nat.not_lt_zero j_w)⟩ h_w
  · obtain ⟨j_w, i1_w, i2_w, i3⟩ := hI
    obtain ⟨FE, NE, y_w⟩ := s
    have i2_w : y_w = Int32.ofNat j_w := i2_w
    have i3 : hp_J (m_w.2.1 104) (m_w.1 105) v_w j_w FE NE := i3
    have hs : d_X10_isHopeless_l47b 82 x3 x4_w x5_w x7 x8 (Int32.ofNat v_w) FE NE y_w m_w = some (.inl s') := hs
    unfold d_X10_isHopeless_l47b at hs
    rw [i2_w, hn, mk_i (by omega), mk_i (by omega)] at hs
    by_cases q_w : (n_w : Int) ≤ j_w
    · rw [if_pos q_w] at hs; cases hs
    · rw [if_neg q_w, mk_bit _ hv, on_1 (by omega), on_n (by omega), show 82 + 22 = 104 from rfl, show 82 + 23 = 105 from rfl] at hs
      obtain ⟨i4_w, i5_w⟩ := i3
      have g_w := hc_w j_w (by omega)
      by_cases b_w : mk_bt (m_w.2.1 104 j_w) v_w = true
      · rw [if_neg (fun z_w => z_w (cb1_w.mpr b_w))] at hs
        have near_w : ∀ k_w, k_w < j_w + 1 → mk_bt (m_w.2.1 104 k_w) v_w = true → ∀ i_w, i_w < 64 → mk_bt (m_w.2.1 104 k_w) i_w = true → mk_bt (NE ||| m_w.2.1 104 j_w) i_w = true := fun k_w hk k1_w i_w hi_w k2_w => by
          rw [mk_or, Bool.or_eq_true]
          by_cases e_w : k_w = j_w
          · rw [e_w] at k2_w; exact Or.inr k2_w
          · exact Or.inl ((i5_w k_w (by omega) k1_w).2 i_w hi_w k2_w)
        by_cases k_w : FE.toInt ≤ (m_w.1 105 j_w).toInt
        · rw [if_pos k_w] at hs
          have hs := Sum.inl.inj (Option.some.inj hs)
          rw [← hs]
          refine ⟨j_w + 1, by omega, rfl, i4_w, fun k' hk k1_w => ⟨?_, near_w k' hk k1_w⟩⟩
          by_cases e_w : k' = j_w
          · rw [e_w]; exact k_w
          · exact (i5_w k' (by omega) k1_w).1
        · rw [if_neg k_w] at hs
          have hs := Sum.inl.inj (Option.some.inj hs)
          rw [← hs]
          refine ⟨j_w + 1, by omega, rfl, ⟨g_w.1, by show (m_w.1 105 j_w).toInt ≤ 7; omega⟩, fun k' hk k1_w => ⟨?_, near_w k' hk k1_w⟩⟩
          show (m_w.1 105 j_w).toInt ≤ _
          by_cases e_w : k' = j_w
          · rw [e_w]; exact Int.le_refl _
          · have := (i5_w k' (by omega) k1_w).1; omega
      · rw [if_pos (fun z_w => b_w (cb1_w.mp z_w))] at hs
        have hs := Sum.inl.inj (Option.some.inj hs)
        rw [← hs]
        refine ⟨j_w + 1, by omega, rfl, i4_w, fun k' hk k1_w => ?_⟩
        by_cases e_w : k' = j_w
        · rw [e_w] at k1_w; exact absurd k1_w b_w
        · exact i5_w k' (by omega) k1_w
  · obtain ⟨j_w, i1_w, i2_w, i3⟩ := hI
    obtain ⟨FE, NE, y_w⟩ := s
    have i2_w : y_w = Int32.ofNat j_w := i2_w
    have i3 : hp_J (m_w.2.1 104) (m_w.1 105) v_w j_w FE NE := i3
    have hs : d_X10_isHopeless_l47b 82 x3 x4_w x5_w x7 x8 (Int32.ofNat v_w) FE NE y_w m_w = some (.inr u_w) := hs
    unfold d_X10_isHopeless_l47b at hs
    rw [i2_w, hn, mk_i (by omega), mk_i (by omega)] at hs
    by_cases q_w : (n_w : Int) ≤ j_w
    · rw [if_pos q_w] at hs
      have hs := Sum.inr.inj (Option.some.inj hs)
      have e_w : j_w = n_w := by omega
      rw [e_w] at i3
      exact ⟨FE, NE, i3, hs.symm⟩
    · rw [if_neg q_w] at hs
      split at hs
      · cases hs
      · split at hs <;> cases hs
theorem hps_w {n_w : Nat} {X_w : Int64} {MA_w LF_w b_w : Int32} {m_w : dc_M} (hn : m_w.1 82 49 = Int32.ofNat n_w) (n7 : n_w ≤ 729) (hc_w : ∀ k_w, k_w < n_w → 0 ≤ (m_w.1 105 k_w).toInt ∧ (m_w.1 105 k_w).toInt ≤ 6) (h_w : d_X10_isHopeless 82 X_w MA_w LF_w m_w = some b_w) : hp_R n_w (m_w.2.1 104) (m_w.1 105) (m_w.2.1 82 47) X_w MA_w LF_w b_w := by
  unfold d_X10_isHopeless d_X10_isHopeless_l12 at h_w
  have fin_w : ∀ (F_w : Int64) (v_w a_w : Nat) (LT : Int32) (o : Int32), hp_I n_w (m_w.2.1 104) (m_w.1 105) (m_w.2.1 82 47) X_w F_w v_w a_w LT → v_w ≤ 64 → d_X10_isHopeless_b144 MA_w LF_w (Int32.ofNat a_w) LT m_w = some o → hp_R n_w (m_w.2.1 104) (m_w.1 105) (m_w.2.1 82 47) X_w MA_w LF_w o := fun F_w v_w a_w LT o I_w v64 ho => by
    obtain ⟨⟨i1_w, i2_w, i3⟩, i4_w⟩ := I_w
    have lb := i4_w 0 0 mk_lb0
    have an : (Int32.ofNat a_w).toInt = a_w := mk_i (by omega)
    unfold d_X10_isHopeless_b144 at ho
    rw [an] at ho
    by_cases q_w : MA_w.toInt < a_w
    · rw [if_pos q_w] at ho
      have ho := Option.some.inj ho
      exact Or.inr ⟨ho.symm, a_w, LT.toInt + 0, lb, Or.inl q_w⟩
    · rw [if_neg q_w] at ho
      by_cases q2_w : LT.toInt ≤ LF_w.toInt
      · rw [if_pos q2_w] at ho
        exact Or.inl (Option.some.inj ho).symm
      · rw [if_neg q2_w] at ho
        have ho := Option.some.inj ho
        exact Or.inr ⟨ho.symm, a_w, LT.toInt + 0, lb, Or.inr (by omega)⟩
  refine dc_lp_inv (s := (X_w, (0 : Int32), (0 : Int32), (0 : Int32))) (fun s : Int64 × Int32 × Int32 × Int32 => ∃ v_w a_w : Nat, v_w ≤ 64 ∧ s.2.2.2 = Int32.ofNat v_w ∧ s.2.1 = Int32.ofNat a_w ∧ hp_I n_w (m_w.2.1 104) (m_w.1 105) (m_w.2.1 82 47) X_w s.1 v_w a_w s.2.2.1) (fun b_w => hp_R n_w (m_w.2.1 104) (m_w.1 105) (m_w.2.1 82 47) X_w MA_w LF_w b_w) (fun s s' hI hs => ?_) (fun s u_w hI hs => ?_) ⟨0, 0, Nat.zero_le _, rfl, rfl, (show 0 ≤ 0 ∧ 0 ≤ (0 : Int32).toInt ∧ (0 : Int32).toInt ≤ 7 * ((0 : Nat) : Int) by decide), fun a' g' w_w => by rw [Nat.zero_add, show (0 : Int32).toInt = 0 from rfl, Int.zero_add]; exact w_w⟩ h_w
  · obtain ⟨v_w, a_w, i1_w, i2_w, i3, i4_w⟩ := hI
    obtain ⟨F_w, y_w, LT, z_w⟩ := s
    have i2_w : z_w = Int32.ofNat v_w := i2_w
    have i3 : y_w = Int32.ofNat a_w := i3
    have i4_w : hp_I n_w (m_w.2.1 104) (m_w.1 105) (m_w.2.1 82 47) X_w F_w v_w a_w LT := i4_w
    have hs : d_X10_isHopeless_l12b 82 MA_w LF_w F_w y_w LT z_w m_w = some (.inl s') := hs
    unfold d_X10_isHopeless_l12b at hs
    rw [i2_w, i3, mk_i (by omega)] at hs
    have no_w : ∀ (o : Option Int32) (w_w : Int64 × Int32 × Int32 × Int32), (o.map (fun z_w => (Sum.inr z_w : (Int64 × Int32 × Int32 × Int32) ⊕ Int32))) = some (.inl w_w) → False := fun o w_w h_w => by cases o <;> cases h_w
    by_cases q_w : (64 : Int) ≤ v_w
    · rw [if_pos q_w] at hs; exact (no_w _ _ hs).elim
    · rw [if_neg q_w] at hs
      by_cases q2_w : MA_w.toInt < (Int32.ofNat a_w).toInt
      · rw [if_pos q2_w] at hs; exact (no_w _ _ hs).elim
      · rw [if_neg q2_w, mk_bit _ (by omega)] at hs
        obtain ⟨⟨j1, j2_w, j3_w⟩, j4_w⟩ := i4_w
        by_cases b_w : mk_bt F_w v_w = true
        · rw [if_neg (fun z_w => z_w (cb1_w.mpr b_w))] at hs
          obtain ⟨FE, NE, ⟨e1_w, e2_w⟩, e3_w⟩ := hpi_w hn n7 hc_w (by omega) hs
          have e3_w := Sum.inl.inj e3_w
          rw [e3_w, @on_1 a_w (by omega), @on_1 v_w (by omega)]
          have su : (LT + FE).toInt = LT.toInt + FE.toInt := by rw [Int32.toInt_add, sx_bm (by omega) (by omega)]
          refine ⟨v_w + 1, a_w + 1, by omega, rfl, rfl, ⟨by omega, by show 0 ≤ (LT + FE).toInt; rw [su]; omega, by show (LT + FE).toInt ≤ 7 * ((v_w + 1 : Nat) : Int); rw [su]; omega⟩, fun a' g' w_w => ?_⟩
          have st_w := mk_lb_step (fun k_w => (mk_Gok hc_w k_w).1) (show v_w < 64 by omega) b_w (fun k_w hk kb => by rw [mk_Glt hk]; exact e2_w k_w hk kb) w_w
          have := j4_w _ _ st_w
          show mk_lb n_w (m_w.2.1 104) (mk_G (m_w.1 105) n_w) (m_w.2.1 82 47) X_w (a_w + 1 + a') ((LT + FE).toInt + g')
          rw [su, show a_w + 1 + a' = a_w + (a' + 1) by omega, show LT.toInt + FE.toInt + g' = LT.toInt + (g' + FE.toInt) by omega]
          exact this
        · rw [if_pos (fun z_w => b_w (cb1_w.mp z_w)), on_1 (by omega)] at hs
          have hs := Sum.inl.inj (Option.some.inj hs)
          rw [← hs]
          exact ⟨v_w + 1, a_w, by omega, rfl, rfl, ⟨by omega, j2_w, by show LT.toInt ≤ 7 * ((v_w + 1 : Nat) : Int); omega⟩, j4_w⟩
  · obtain ⟨v_w, a_w, i1_w, i2_w, i3, i4_w⟩ := hI
    obtain ⟨F_w, y_w, LT, z_w⟩ := s
    have i2_w : z_w = Int32.ofNat v_w := i2_w
    have i3 : y_w = Int32.ofNat a_w := i3
    have i4_w : hp_I n_w (m_w.2.1 104) (m_w.1 105) (m_w.2.1 82 47) X_w F_w v_w a_w LT := i4_w
    have hs : d_X10_isHopeless_l12b 82 MA_w LF_w F_w y_w LT z_w m_w = some (.inr u_w) := hs
    unfold d_X10_isHopeless_l12b at hs
    rw [i2_w, i3, mk_i (by omega)] at hs
    have yes_w : ∀ (o : Option Int32) (w_w : Int32), (o.map (fun z_w => (Sum.inr z_w : (Int64 × Int32 × Int32 × Int32) ⊕ Int32))) = some (.inr w_w) → o = some w_w := fun o w_w h_w => by
      cases o with
      | none => cases h_w
      | some o =>
        have h_w : (some (Sum.inr o) : Option ((Int64 × Int32 × Int32 × Int32) ⊕ Int32)) = some (.inr w_w) := h_w
        rw [Sum.inr.inj (Option.some.inj h_w)]
    by_cases q_w : (64 : Int) ≤ v_w
    · rw [if_pos q_w] at hs
      exact fin_w F_w v_w a_w LT u_w i4_w i1_w (yes_w _ _ hs)
    · rw [if_neg q_w] at hs
      by_cases q2_w : MA_w.toInt < (Int32.ofNat a_w).toInt
      · rw [if_pos q2_w] at hs
        exact fin_w F_w v_w a_w LT u_w i4_w i1_w (yes_w _ _ hs)
      · rw [if_neg q2_w, mk_bit _ (by omega)] at hs
        by_cases b_w : mk_bt F_w v_w = true
        · rw [if_neg (fun z_w => z_w (cb1_w.mpr b_w))] at hs
          obtain ⟨FE, NE, -, e3_w⟩ := hpi_w hn n7 hc_w (by omega) hs
          cases e3_w
        · rw [if_pos (fun z_w => b_w (cb1_w.mp z_w))] at hs; cases hs
