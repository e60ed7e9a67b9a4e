/-! ===== wire, event, place: what both sides answer ===== -/
theorem wi_end {x1_w x2_w x3 x4_w v_w : Int32} {m_w : dc_M} (h_w : d_X10_wire_l15 82 x1_w x2_w x3 x4_w m_w = some v_w) : (x2_w.toInt = 0 → v_w = m_w.1 83 x1_w.toNatClampNeg) ∧ (x2_w.toInt = 1 → v_w = m_w.1 84 x1_w.toNatClampNeg) ∧ (x2_w.toInt ≠ 0 → x2_w.toInt ≠ 1 → x2_w.toInt ≠ 2 → v_w = -1) := by
  unfold d_X10_wire_l15 at h_w
  refine dc_lp_inv (fun _ => True) (fun v_w : Int32 => (x2_w.toInt = 0 → v_w = m_w.1 83 x1_w.toNatClampNeg) ∧ (x2_w.toInt = 1 → v_w = m_w.1 84 x1_w.toNatClampNeg) ∧ (x2_w.toInt ≠ 0 → x2_w.toInt ≠ 1 → x2_w.toInt ≠ 2 → v_w = -1)) (fun _ _ _ _ => trivial) (fun s v_w _ hs => ?_) trivial h_w
  have hs : d_X10_wire_l15b 82 x1_w x2_w s.1 s.2 m_w = some (.inr v_w) := hs
  unfold d_X10_wire_l15b at hs
  by_cases c1_w : (m_w.1 82 3).toInt ≤ s.2.toInt
  · rw [if_pos c1_w] at hs
    unfold d_X10_wire_b49 at hs
    by_cases c2_w : x2_w.toInt = 0
    · rw [if_neg (fun q_w => q_w c2_w)] at hs
      have hs := Sum.inr.inj (Option.some.inj hs)
      exact ⟨fun _ => hs.symm, fun q_w => by omega, fun q_w => absurd c2_w q_w⟩
    · rw [if_pos c2_w] at hs
      by_cases c3_w : x2_w.toInt = 1
      · rw [if_neg (fun q_w => q_w c3_w)] at hs
        have hs := Sum.inr.inj (Option.some.inj hs)
        exact ⟨fun q_w => absurd q_w c2_w, fun _ => hs.symm, fun _ q_w => absurd c3_w q_w⟩
      · rw [if_pos c3_w] at hs
        by_cases c4_w : x2_w.toInt = 2
        · exact ⟨fun q_w => absurd q_w c2_w, fun q_w => absurd q_w c3_w, fun _ _ q_w => absurd c4_w q_w⟩
        · rw [if_pos c4_w] at hs
          have hs := Sum.inr.inj (Option.some.inj hs)
          exact ⟨fun q_w => absurd q_w c2_w, fun q_w => absurd q_w c3_w, fun _ _ _ => hs.symm⟩
  · rw [if_neg c1_w] at hs
    split at hs <;> cases hs
theorem hw_0 {a_w : Nat} {x_w : Int32} {c_w : dc_M} : (d_X3_hasWire a_w x_w c_w).toInt = 0 ↔ ¬ (0 ≤ x_w.toInt ∧ x_w.toInt < (c_w.1 a_w 0).toInt) := by
  unfold d_X3_hasWire
  by_cases h1 : x_w.toInt < 0
  · rw [if_pos h1]
    exact ⟨fun _ => by omega, fun _ => rfl⟩
  · rw [if_neg h1]
    by_cases h2 : (c_w.1 a_w 0).toInt ≤ x_w.toInt
    · rw [if_pos h2]
      exact ⟨fun _ => by omega, fun _ => rfl⟩
    · rw [if_neg h2]
      exact ⟨fun q_w => absurd q_w (by decide), fun q_w => absurd ⟨by omega, by omega⟩ q_w⟩
theorem iw_0 {x_w : Int32} {m_w : dc_M} (e_w : 0 ≤ (m_w.1 82 0).toInt ∧ (m_w.1 82 0).toInt ≤ 6) : (d_X10_isWire 82 x_w m_w).toInt = 0 ↔ ¬ (0 ≤ x_w.toInt ∧ x_w.toInt < (m_w.1 82 0).toInt) := by
  have e1_w : (m_w.1 82 0 - 1).toInt = (m_w.1 82 0).toInt - 1 := by rw [Int32.toInt_sub, show (1 : Int32).toInt = 1 from rfl, sx_bm (by omega) (by omega)]
  unfold d_X10_isWire
  rw [di_in, di_il, di_il, e1_w, show (0 : Int64).toInt = 0 from rfl, di_ine]
  exact ⟨fun q_w r_w => q_w (by omega), fun q_w r_w => q_w (by omega)⟩
theorem hp_0 {a_w : Nat} {x_w : Int32} {c_w : dc_M} : (d_X3_hasPlace a_w x_w c_w).toInt = 0 ↔ ¬ (0 ≤ x_w.toInt ∧ x_w.toInt < (c_w.1 a_w 2).toInt) := by
  unfold d_X3_hasPlace
  by_cases h1 : x_w.toInt < 0
  · rw [if_pos h1]
    exact ⟨fun _ => by omega, fun _ => rfl⟩
  · rw [if_neg h1]
    by_cases h2 : (c_w.1 a_w 2).toInt ≤ x_w.toInt
    · rw [if_pos h2]
      exact ⟨fun _ => by omega, fun _ => rfl⟩
    · rw [if_neg h2]
      exact ⟨fun q_w => absurd q_w (by decide), fun q_w => absurd ⟨by omega, by omega⟩ q_w⟩
theorem eo_sim {a_w : Nat} {x1_w x2_w q_w v_w : Int32} {c_w m_w : dc_M} (N_w : NR a_w c_w m_w) (h2 : x2_w.toInt = 2) (f_w : d_X3_eventsOf a_w x1_w c_w = some q_w) (g_w : d_X10_wire_l15 82 x1_w x2_w 0 0 m_w = some v_w) : q_w = v_w := by
  obtain ⟨-, ⟨n1_w, n1b, n1l⟩, -⟩ := N_w
  unfold d_X3_eventsOf d_X3_eventsOf_l4 at f_w
  unfold d_X10_wire_l15 at g_w
  refine dc_lp_sim (s := ((0 : Int32), (0 : Int32))) (t := ((0 : Int32), (0 : Int32))) (fun s t : Int32 × Int32 => s = t ∧ 0 ≤ s.2.toInt) (fun q_w v_w : Int32 => q_w = v_w) (fun s t y_w z_w hR hf hg => ?_) ⟨rfl, by decide⟩ f_w g_w
  obtain ⟨rfl, j0⟩ := hR
  have hf : d_X3_eventsOf_l4b a_w x1_w s.1 s.2 c_w = some y_w := hf
  have hg : d_X10_wire_l15b 82 x1_w x2_w s.1 s.2 m_w = some z_w := hg
  unfold d_X3_eventsOf_l4b at hf
  unfold d_X10_wire_l15b at hg
  rw [← n1_w] at hg
  by_cases c1_w : (c_w.1 a_w 1).toInt ≤ s.2.toInt
  · rw [if_pos c1_w] at hf hg
    unfold d_X10_wire_b49 at hg
    rw [if_pos (show ¬ x2_w.toInt = 0 by omega), if_pos (show ¬ x2_w.toInt = 1 by omega), if_neg (fun q_w => q_w h2)] at hg
    exact Or.inr ⟨_, _, (Option.some.inj hf).symm, (Option.some.inj hg).symm, rfl⟩
  · rw [if_neg c1_w] at hf hg
    have hn := cl_n j0
    have e1_w : (s.2 + 1).toInt = s.2.toInt + 1 := i1 (by omega) (Int32.le_toInt _)
    have ew : c_w.1 (a_w + 3) s.2.toNatClampNeg = m_w.1 (82 + 3) s.2.toNatClampNeg := (n1l s.2.toNatClampNeg (by omega)).1
    rw [ew] at hf
    by_cases c2_w : (m_w.1 (82 + 3) s.2.toNatClampNeg).toInt = x1_w.toInt
    · rw [if_neg (fun q_w => q_w c2_w)] at hf hg
      refine Or.inl ⟨_, _, (Option.some.inj hf).symm, (Option.some.inj hg).symm, rfl, ?_⟩
      show 0 ≤ (s.2 + 1).toInt
      omega
    · rw [if_pos c2_w] at hf hg
      refine Or.inl ⟨_, _, (Option.some.inj hf).symm, (Option.some.inj hg).symm, ?_, ?_⟩
      · rw [Int32.add_zero]
      · show 0 ≤ (s.2 + 1).toInt
        omega
theorem RN.p4w {x1_w x2_w : Int32} {c_w m_w c' m' : dc_M} {v_w v' : Int32} (R_w : RN c_w m_w) (f_w : d_X9_wire 1 x1_w x2_w c_w = some v_w ∧ c' = c_w) (g_w : d_X10_wire 82 x1_w x2_w m_w = some v' ∧ m' = m_w) : v_w = v' ∧ RN c' m' := by
  obtain ⟨f_w, rfl⟩ := f_w
  obtain ⟨g_w, rfl⟩ := g_w
  refine ⟨?_, R_w⟩
  have B_w := NB.ofw R_w.2.1
  obtain ⟨w0_w, -, w2_w⟩ := R_w.2.1.1
  unfold d_X9_wire at f_w
  unfold d_X10_wire at g_w
  by_cases c1_w : 0 ≤ x1_w.toInt ∧ x1_w.toInt < (m'.1 82 0).toInt
  · have nx := cl_n c1_w.1
    obtain ⟨l1, l2⟩ := w2_w x1_w.toNatClampNeg (by rw [w0_w]; omega)
    rw [if_pos (fun q_w => (hw_0.mp q_w) (by rw [w0_w]; exact c1_w))] at f_w
    rw [if_pos (fun q_w => ((iw_0 B_w.1).mp q_w) c1_w)] at g_w
    obtain ⟨g0, g1, g2⟩ := wi_end g_w
    by_cases c2_w : x2_w.toInt = 0
    · rw [if_pos c2_w] at f_w
      rw [g0 c2_w, ← l1]
      exact (Option.some.inj f_w).symm
    · rw [if_neg c2_w] at f_w
      by_cases c3_w : x2_w.toInt = 1
      · rw [if_pos c3_w] at f_w
        rw [g1 c3_w, ← l2]
        exact (Option.some.inj f_w).symm
      · rw [if_neg c3_w] at f_w
        by_cases c4_w : x2_w.toInt = 2
        · rw [if_pos c4_w] at f_w
          cases hq : d_X3_eventsOf (c'.2.2.1 1 7) x1_w c' with
          | none => rw [hq] at f_w; cases f_w
          | some q_w =>
            rw [hq] at f_w
            rw [← Option.some.inj f_w]
            exact eo_sim R_w.2.1 c4_w hq g_w
        · rw [if_neg c4_w] at f_w
          rw [g2 c2_w c3_w c4_w]
          exact (Option.some.inj f_w).symm
  · rw [if_neg (fun q_w => q_w (hw_0.mpr (by rw [w0_w]; exact c1_w)))] at f_w
    rw [if_neg (fun q_w => q_w ((iw_0 B_w.1).mpr c1_w))] at g_w
    exact (Option.some.inj f_w).symm.trans (Option.some.inj g_w)
theorem RN.p5w {x1_w x2_w : Int32} {c_w m_w c' m' : dc_M} {v_w v' : Int32} (R_w : RN c_w m_w) (f_w : d_X9_event 1 x1_w x2_w c_w = v_w ∧ c' = c_w) (g_w : d_X10_event 82 x1_w x2_w m_w = v' ∧ m' = m_w) : v_w = v' ∧ RN c' m' := by
  obtain ⟨f_w, rfl⟩ := f_w
  obtain ⟨g_w, rfl⟩ := g_w
  refine ⟨?_, R_w⟩
  rw [← f_w, ← g_w]
  have B_w := NB.ofw R_w.2.1
  obtain ⟨n1_w, -, n1l⟩ := R_w.2.1.2.1
  unfold d_X9_event d_X10_event
  by_cases c1_w : 0 ≤ x1_w.toInt ∧ x1_w.toInt < (m'.1 82 3).toInt
  · have nx := cl_n c1_w.1
    obtain ⟨l3, l4, l5, l6, l7, l8, -⟩ := n1l x1_w.toNatClampNeg (by rw [n1_w]; omega)
    rw [if_pos (fun q_w => (hv_0.mp q_w) (by rw [n1_w]; exact c1_w)), if_pos (fun q_w => ((ev_0 B_w.2.1).mp q_w) c1_w), l3, l4, l5, l6, l7, l8]
  · rw [if_neg (fun q_w => q_w (hv_0.mpr (by rw [n1_w]; exact c1_w))), if_neg (fun q_w => q_w ((ev_0 B_w.2.1).mpr c1_w))]
/-- the bits of events that have a_w place in their row -/
theorem b32_s1 {x_w p_w e_w : Int32} (hp : 0 ≤ p_w.toInt ∧ p_w.toInt < 32) (he : 0 ≤ e_w.toInt ∧ e_w.toInt < 32) {k_w : Nat} (hk : k_w < 32) : b32 (((x_w >>> (p_w &&& 31)) &&& 1) <<< (e_w &&& 31)) k_w = (decide (k_w = e_w.toNatClampNeg) && b32 x_w p_w.toNatClampNeg) := by
  rw [b32_v hp]
  by_cases hb_w : b32 x_w p_w.toNatClampNeg = true
  · rw [if_pos hb_w, b32_1 he hk, hb_w, Bool.and_true]
  · rw [if_neg hb_w, sl_0, b32_0, eq_false_of_ne_true hb_w, Bool.and_false]
theorem fd_run {p_w q_w : Int32} {m_w : dc_M} (hp : 0 ≤ p_w.toInt ∧ p_w.toInt < 32) (e_w : 0 ≤ (m_w.1 82 3).toInt ∧ (m_w.1 82 3).toInt ≤ 16) (h_w : d_X10_feeding 82 p_w m_w = some q_w) : ∀ k_w, k_w < 32 → b32 q_w k_w = (decide ((k_w : Int) < (m_w.1 82 3).toInt) && b32 (m_w.1 89 k_w) p_w.toNatClampNeg) := by
  unfold d_X10_feeding d_X10_feeding_l4 at h_w
  refine dc_lp_inv (s := ((0 : Int32), (0 : Int32))) (fun s : Int32 × Int32 => (0 ≤ s.2.toInt ∧ s.2.toInt ≤ (m_w.1 82 3).toInt) ∧ ∀ k_w, k_w < 32 → b32 s.1 k_w = (decide ((k_w : Int) < s.2.toInt) && b32 (m_w.1 89 k_w) p_w.toNatClampNeg)) (fun q_w : Int32 => ∀ k_w, k_w < 32 → b32 q_w k_w = (decide ((k_w : Int) < (m_w.1 82 3).toInt) && b32 (m_w.1 89 k_w) p_w.toNatClampNeg)) (fun s s' hI hs => ?_) (fun s q_w hI hs => ?_) ⟨⟨by decide, e_w.1⟩, fun k_w hk => ?_⟩ h_w
  · obtain ⟨⟨j0, j1⟩, j2_w⟩ := hI
    have hs : d_X10_feeding_l4b 82 p_w s.1 s.2 m_w = some (.inl s') := hs
    unfold d_X10_feeding_l4b at hs
    by_cases c1_w : (m_w.1 82 3).toInt ≤ s.2.toInt
    · rw [if_pos c1_w] at hs; cases hs
    · rw [if_neg c1_w] at hs
      have hn := cl_n j0
      have e1_w : (s.2 + 1).toInt = s.2.toInt + 1 := i1 (by omega) (Int32.le_toInt _)
      have hs := Sum.inl.inj (Option.some.inj hs)
      rw [← hs]
      refine ⟨⟨by show 0 ≤ (s.2 + 1).toInt; omega, by show (s.2 + 1).toInt ≤ _; omega⟩, fun k_w hk => ?_⟩
      show b32 (s.1 ||| (((m_w.1 89 s.2.toNatClampNeg) >>> (p_w &&& 31)) &&& 1) <<< (s.2 &&& 31)) k_w = (decide ((k_w : Int) < (s.2 + 1).toInt) && b32 (m_w.1 89 k_w) p_w.toNatClampNeg)
      rw [b32_or, j2_w k_w hk, b32_s1 hp ⟨j0, by omega⟩ hk, e1_w]
      by_cases z_w : k_w = s.2.toNatClampNeg
      · rw [z_w, decide_eq_true rfl, decide_eq_false (show ¬ ((s.2.toNatClampNeg : Nat) : Int) < s.2.toInt by omega), decide_eq_true (show ((s.2.toNatClampNeg : Nat) : Int) < s.2.toInt + 1 by omega), Bool.false_and, Bool.false_or]
      · rw [decide_eq_false z_w, Bool.false_and, Bool.or_false, show decide ((k_w : Int) < s.2.toInt + 1) = decide ((k_w : Int) < s.2.toInt) from decide_eq_decide.mpr (by omega)]
  · obtain ⟨⟨j0, j1⟩, j2_w⟩ := hI
    have hs : d_X10_feeding_l4b 82 p_w s.1 s.2 m_w = some (.inr q_w) := hs
    unfold d_X10_feeding_l4b at hs
    by_cases c1_w : (m_w.1 82 3).toInt ≤ s.2.toInt
    · rw [if_pos c1_w] at hs
      have hs := Sum.inr.inj (Option.some.inj hs)
      rw [← hs]
      intro k_w hk
      rw [j2_w k_w hk, show s.2.toInt = (m_w.1 82 3).toInt by omega]
    · rw [if_neg c1_w] at hs; cases hs
  · show b32 0 k_w = _
    rw [b32_0, decide_eq_false (show ¬ (k_w : Int) < (0 : Int32).toInt by rw [show (0 : Int32).toInt = 0 from rfl]; omega), Bool.false_and]
theorem tk_run {p_w q_w : Int32} {m_w : dc_M} (hp : 0 ≤ p_w.toInt ∧ p_w.toInt < 32) (e_w : 0 ≤ (m_w.1 82 3).toInt ∧ (m_w.1 82 3).toInt ≤ 16) (h_w : d_X10_taking 82 p_w m_w = some q_w) : ∀ k_w, k_w < 32 → b32 q_w k_w = (decide ((k_w : Int) < (m_w.1 82 3).toInt) && b32 (m_w.1 88 k_w) p_w.toNatClampNeg) := by
  unfold d_X10_taking d_X10_taking_l4 at h_w
  refine dc_lp_inv (s := ((0 : Int32), (0 : Int32))) (fun s : Int32 × Int32 => (0 ≤ s.2.toInt ∧ s.2.toInt ≤ (m_w.1 82 3).toInt) ∧ ∀ k_w, k_w < 32 → b32 s.1 k_w = (decide ((k_w : Int) < s.2.toInt) && b32 (m_w.1 88 k_w) p_w.toNatClampNeg)) (fun q_w : Int32 => ∀ k_w, k_w < 32 → b32 q_w k_w = (decide ((k_w : Int) < (m_w.1 82 3).toInt) && b32 (m_w.1 88 k_w) p_w.toNatClampNeg)) (fun s s' hI hs => ?_) (fun s q_w hI hs => ?_) ⟨⟨by decide, e_w.1⟩, fun k_w hk => ?_⟩ h_w
  · obtain ⟨⟨j0, j1⟩, j2_w⟩ := hI
    have hs : d_X10_taking_l4b 82 p_w s.1 s.2 m_w = some (.inl s') := hs
    unfold d_X10_taking_l4b at hs
    by_cases c1_w : (m_w.1 82 3).toInt ≤ s.2.toInt
    · rw [if_pos c1_w] at hs; cases hs
    · rw [if_neg c1_w] at hs
      have hn := cl_n j0
      have e1_w : (s.2 + 1).toInt = s.2.toInt + 1 := i1 (by omega) (Int32.le_toInt _)
      have hs := Sum.inl.inj (Option.some.inj hs)
      rw [← hs]
      refine ⟨⟨by show 0 ≤ (s.2 + 1).toInt; omega, by show (s.2 + 1).toInt ≤ _; omega⟩, fun k_w hk => ?_⟩
      show b32 (s.1 ||| (((m_w.1 88 s.2.toNatClampNeg) >>> (p_w &&& 31)) &&& 1) <<< (s.2 &&& 31)) k_w = (decide ((k_w : Int) < (s.2 + 1).toInt) && b32 (m_w.1 88 k_w) p_w.toNatClampNeg)
      rw [b32_or, j2_w k_w hk, b32_s1 hp ⟨j0, by omega⟩ hk, e1_w]
      by_cases z_w : k_w = s.2.toNatClampNeg
      · rw [z_w, decide_eq_true rfl, decide_eq_false (show ¬ ((s.2.toNatClampNeg : Nat) : Int) < s.2.toInt by omega), decide_eq_true (show ((s.2.toNatClampNeg : Nat) : Int) < s.2.toInt + 1 by omega), Bool.false_and, Bool.false_or]
      · rw [decide_eq_false z_w, Bool.false_and, Bool.or_false, show decide ((k_w : Int) < s.2.toInt + 1) = decide ((k_w : Int) < s.2.toInt) from decide_eq_decide.mpr (by omega)]
  · obtain ⟨⟨j0, j1⟩, j2_w⟩ := hI
    have hs : d_X10_taking_l4b 82 p_w s.1 s.2 m_w = some (.inr q_w) := hs
    unfold d_X10_taking_l4b at hs
    by_cases c1_w : (m_w.1 82 3).toInt ≤ s.2.toInt
    · rw [if_pos c1_w] at hs
      have hs := Sum.inr.inj (Option.some.inj hs)
      rw [← hs]
      intro k_w hk
      rw [j2_w k_w hk, show s.2.toInt = (m_w.1 82 3).toInt by omega]
    · rw [if_neg c1_w] at hs; cases hs
  · show b32 0 k_w = _
    rw [b32_0, decide_eq_false (show ¬ (k_w : Int) < (0 : Int32).toInt by rw [show (0 : Int32).toInt = 0 from rfl]; omega), Bool.false_and]
theorem RN.p6w {x1_w x2_w : Int32} {c_w m_w c' m' : dc_M} {v_w v' : Int32} (R_w : RN c_w m_w) (f_w : d_X9_place 1 x1_w x2_w c_w = v_w ∧ c' = c_w) (g_w : d_X10_place 82 x1_w x2_w m_w = some v' ∧ m' = m_w) : v_w = v' ∧ RN c' m' := by
  obtain ⟨f_w, rfl⟩ := f_w
  obtain ⟨g_w, rfl⟩ := g_w
  refine ⟨?_, R_w⟩
  have B_w := NB.ofw R_w.2.1
  obtain ⟨-, ⟨n1_w, n1b, n1l⟩, ⟨p0_w, p1_w, p2_w⟩, b_w, -, -⟩ := R_w.2.1
  rw [← f_w]
  unfold d_X9_place
  unfold d_X10_place at g_w
  have e1_w : (m'.1 82 10 - 1).toInt = (m'.1 82 10).toInt - 1 := by rw [Int32.toInt_sub, show (1 : Int32).toInt = 1 from rfl, sx_bm (by have := B_w.2.2; omega) (by have := B_w.2.2; omega)]
  rw [di_in, di_il, di_il, e1_w, show (0 : Int64).toInt = 0 from rfl] at g_w
  by_cases c1_w : 0 ≤ x1_w.toInt ∧ x1_w.toInt < (m'.1 82 10).toInt
  · have nx := cl_n c1_w.1
    have x32 : 0 ≤ x1_w.toInt ∧ x1_w.toInt < 32 := ⟨c1_w.1, by have := B_w.2.2; omega⟩
    have hb_w := b_w x1_w.toNatClampNeg (by show _ < (c'.1 (c'.2.2.1 1 7) 2).toInt; rw [p0_w]; omega)
    rw [if_pos (fun q_w => (hp_0.mp q_w) (by rw [p0_w]; exact c1_w))]
    rw [if_pos (fun q_w => (di_ine.mp q_w) (by omega))] at g_w
    by_cases c2_w : x2_w.toInt = 0
    · rw [if_pos c2_w]
      rw [if_neg (fun q_w => q_w c2_w)] at g_w
      cases hq : d_X10_feeding 82 x1_w m' with
      | none => rw [hq] at g_w; cases g_w
      | some q_w =>
        rw [hq] at g_w
        rw [← Option.some.inj g_w]
        refine b32_ext (fun k_w hk => ?_)
        rw [fd_run x32 B_w.2.1 hq k_w hk]
        refine (hb_w k_w hk).1.trans ?_
        show (decide ((k_w : Int) < (c'.1 (c'.2.2.1 1 7) 1).toInt) && b32 (c'.1 (c'.2.2.1 1 7 + 7) k_w) x1_w.toNatClampNeg) = _
        rw [n1_w]
        by_cases hk2 : (k_w : Int) < (m'.1 82 3).toInt
        · rw [(n1l k_w (by rw [n1_w]; exact hk2)).2.2.2.2.1]
        · rw [decide_eq_false hk2, Bool.false_and, Bool.false_and]
    · rw [if_neg c2_w]
      rw [if_pos c2_w] at g_w
      by_cases c3_w : x2_w.toInt = 1
      · rw [if_pos c3_w]
        rw [if_neg (fun q_w => q_w c3_w)] at g_w
        cases hq : d_X10_taking 82 x1_w m' with
        | none => rw [hq] at g_w; cases g_w
        | some q_w =>
          rw [hq] at g_w
          rw [← Option.some.inj g_w]
          refine b32_ext (fun k_w hk => ?_)
          rw [tk_run x32 B_w.2.1 hq k_w hk]
          refine (hb_w k_w hk).2.trans ?_
          show (decide ((k_w : Int) < (c'.1 (c'.2.2.1 1 7) 1).toInt) && b32 (c'.1 (c'.2.2.1 1 7 + 6) k_w) x1_w.toNatClampNeg) = _
          rw [n1_w]
          by_cases hk2 : (k_w : Int) < (m'.1 82 3).toInt
          · rw [(n1l k_w (by rw [n1_w]; exact hk2)).2.2.2.1]
          · rw [decide_eq_false hk2, Bool.false_and, Bool.false_and]
      · rw [if_neg c3_w]
        rw [if_pos c3_w] at g_w
        by_cases c4_w : x2_w.toInt = 2
        · rw [if_pos c4_w, p2_w]
          rw [if_neg (fun q_w => q_w c4_w)] at g_w
          exact Option.some.inj g_w
        · rw [if_neg c4_w]
          rw [if_pos c4_w] at g_w
          exact Option.some.inj g_w
  · rw [if_neg (fun q_w => q_w (hp_0.mpr (by rw [p0_w]; exact c1_w)))]
    rw [if_neg (fun q_w => q_w (di_ine.mpr (by omega)))] at g_w
    exact Option.some.inj g_w
