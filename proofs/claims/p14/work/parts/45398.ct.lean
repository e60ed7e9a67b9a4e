/-! ===== how many there are of what ===== -/
theorem RAw.p29 {x1_w : Int32} {c_w m_w c' m' : dc_M} {v_w v' : Int32} (h40 : ∀ j, j < 4 → c_w.2.2.1 40 j = 74 + 2 * j) (R_w : RAw c_w m_w) (f_w : d_X9_count 1 x1_w c_w = v_w ∧ c' = c_w) (g_w : d_X10_count 82 x1_w m_w = some v' ∧ m' = m_w) : v_w = v' ∧ RAw c' m' := by
  obtain ⟨f_w, rfl⟩ := f_w
  obtain ⟨g_w, rfl⟩ := g_w
  refine ⟨?_, R_w⟩
  have hT_w : c'.1 2 1 = m'.1 82 13 := R_w.1.1.1.1
  have hN_w := R_w.1.2.1
  have hH : c'.1 37 0 = m'.1 82 64 := R_w.2.1.1
  have hS_w := R_w.2.2 0 (by decide)
  clear R_w
  unfold d_X9_count at f_w
  unfold d_X10_count at g_w
  by_cases c0_w : x1_w.toInt = 0
  · rw [if_pos c0_w] at f_w g_w
    rw [← f_w, ← Option.some.inj g_w]
    exact hN_w.1.1
  rw [if_neg c0_w] at f_w g_w
  by_cases c1_w : x1_w.toInt = 1
  · rw [if_pos c1_w] at f_w g_w
    rw [← f_w, ← Option.some.inj g_w]
    exact hN_w.2.1.1
  rw [if_neg c1_w] at f_w g_w
  by_cases c2_w : x1_w.toInt = 2
  · rw [if_pos c2_w] at f_w g_w
    rw [← f_w, ← Option.some.inj g_w]
    exact hN_w.2.2.1.1
  rw [if_neg c2_w] at f_w g_w
  by_cases c3_w : x1_w.toInt = 3
  · rw [if_pos c3_w] at f_w g_w
    have e13_w : c'.1 (c'.2.2.1 1 7) 13 = m'.1 82 11 := hN_w.2.2.1.2.2
    have hb_w : XQb (c'.1 (c'.2.2.1 1 7) 13) := hN_w.2.2.2.2.1
    rw [bc_cnt] at f_w
    rw [e13_w] at f_w hb_w
    cases hq : d_X10_sizeOf (m'.1 82 11) m' with
    | none => rw [hq] at g_w; cases g_w
    | some q_w =>
      rw [hq] at g_w
      have g_w : some q_w = some v' := g_w
      rw [← f_w, ← Option.some.inj g_w, so_cn hq, cnt_hi (show ∀ k, 20 ≤ k → k < 32 → b32 _ k = false from hb_w) 32 (by decide) (by decide)]
  rw [if_neg c3_w] at f_w g_w
  by_cases c4_w : x1_w.toInt = 4
  · rw [if_pos c4_w] at f_w g_w
    rw [← f_w, ← Option.some.inj g_w]
    exact hH
  rw [if_neg c4_w] at f_w g_w
  by_cases c5_w : x1_w.toInt = 5
  · rw [if_pos c5_w] at f_w g_w
    rw [← f_w, ← Option.some.inj g_w]
    exact hT_w
  rw [if_neg c5_w] at f_w g_w
  by_cases c6_w : x1_w.toInt = 6
  · rw [if_pos c6_w] at f_w g_w
    rw [show 1 + 39 = 40 from rfl, show (0 : Int32).toNatClampNeg = 0 from rfl, h40 0 (by decide)] at f_w
    rw [show 82 + 35 = 117 from rfl, show 82 + 36 = 118 from rfl, show (0 : Int32).toNatClampNeg = 0 from rfl] at g_w
    unfold d_X6_isNothing at f_w
    rcases hS_w with ⟨s1_w, s2_w⟩ | ⟨s1_w, s2_w, s3_w, s4_w, -⟩
    · rw [if_neg (show ¬ 0 ≤ (c'.1 (74 + 2 * 0) 0).toInt by omega), if_neg (show ¬ ((1 : Int32).toInt = 0) by decide)] at f_w
      rw [if_neg (show ¬ ¬ (m'.1 117 0).toInt = -4 by rw [s2_w]; exact fun q_w => q_w rfl)] at g_w
      rw [← f_w, ← Option.some.inj g_w]
    · rw [if_pos (show 0 ≤ (c'.1 (74 + 2 * 0) 0).toInt by rw [s1_w]; exact s2_w.1), if_pos (show (0 : Int32).toInt = 0 from rfl)] at f_w
      rw [if_pos (show ¬ (m'.1 117 0).toInt = -4 by omega)] at g_w
      rw [← f_w, ← Option.some.inj g_w]
      exact s1_w
  rw [if_neg c6_w] at f_w g_w
  rw [← f_w, ← Option.some.inj g_w]
