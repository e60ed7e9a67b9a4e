/-! ===== cure, delay, come, undo, run with all the rest ===== -/
theorem RN.ot {c_w m_w c' m' : dc_M} (R : RN c_w m_w) (e1_w : ∀ b_w k_w, ¬ (37 ≤ b_w ∧ b_w ≤ 39) → ¬ (74 ≤ b_w ∧ b_w ≤ 81) → c'.1 b_w k_w = c_w.1 b_w k_w) (e2_w : c'.2 = c_w.2) (e3_w : ∀ b_w k_w, ¬ (b_w = 82 ∧ k_w = 64) → ¬ (115 ≤ b_w ∧ b_w ≤ 119) → m'.1 b_w k_w = m_w.1 b_w k_w) : RN c' m' := by
  have ha_w := md41 R.1.2.2
  have e7_w : c'.2.2.1 1 7 = c_w.2.2.1 1 7 := by rw [e2_w]
  have e8 : c'.2.2.1 1 8 = c_w.2.2.1 1 8 := by rw [e2_w]
  have en : ∀ i_w, i_w ≤ 10 → c'.1 (c_w.2.2.1 1 7 + i_w) = c_w.1 (c_w.2.2.1 1 7 + i_w) := fun i_w hi_w => funext (fun k_w => e1_w _ k_w (by omega) (by omega))
  refine ⟨⟨tp.up R.1.1 (e1_w 2 1 (by omega) (by omega)) (fun j_w => e1_w 3 j_w (by omega) (by omega)) (e3_w 82 13 (by omega) (by omega)) (fun j_w => e3_w 91 j_w (by omega) (by omega)), by rw [e1_w 2 2 (by omega) (by omega), e3_w 82 14 (by omega) (by omega)]; exact R.1.2.1, by rw [e7_w, e8]; exact R.1.2.2⟩, ?_, CK.eq R.2.2 (e1_w 1 11 (by omega) (by omega)) e7_w en (fun b_w k_w h1 h2 _ => e1_w b_w k_w (by omega) (by omega))⟩
  rw [e7_w]
  exact NR.eq R.2.1 en (fun k_w hk => e3_w 82 k_w (by omega) (by omega)) (fun b_w h1 h2 => funext (fun k_w => e3_w b_w k_w (by omega) (by omega)))
theorem RAw.p18 {x1_w x2_w : Int32} {c_w m_w c' m' : dc_M} {v_w v' : Int32} (len_w : (c_w.2.2.2 10).2 = 512) (hr : ∀ k_w, k_w < 16 → 0 ≤ (m_w.1 86 k_w).toInt ∧ (m_w.1 86 k_w).toInt ≤ 1) (R : RAw c_w m_w) (f_w : d_X9_cure 1 x1_w x2_w c_w = some (v_w, c')) (g_w : d_X10_cure 82 x1_w x2_w m_w = some (v', m')) : v_w = v' ∧ RAw c' m' := by
  have ha_w := md41 R.1.1.2.2
  obtain ⟨e_w, N_w, D_w⟩ := RN.p18 len_w hr R.1 f_w g_w
  refine ⟨e_w, ?_⟩
  rcases D_w with ⟨C_w, K_w⟩ | ⟨q_w, y_w, C_w, K_w, d1_w, d2_w, d3_w, d4_w, d5_w, d6_w⟩
  · exact R.cpk N_w C_w (KNw.ofw K_w)
  · have ec : ∀ b_w k_w, 74 ≤ b_w → b_w ≤ 81 → c'.1 b_w k_w = c_w.1 b_w k_w := fun b_w k_w h1 h2 => (d1_w b_w k_w (by omega) (by omega) (by omega)).trans (C_w.2.2.2.2.2.2 b_w k_w (by omega))
    have em : ∀ b_w k_w, 117 ≤ b_w → b_w ≤ 119 → m'.1 b_w k_w = m_w.1 b_w k_w := fun b_w k_w h1 h2 => (d6_w b_w k_w (by omega)).trans (K_w b_w k_w (by unfold krc; omega))
    refine ⟨N_w, ⟨by rw [d2_w, d3_w], by rw [d2_w]; decide, d5_w, fun j_w hj => ?_⟩, R.2.2.eqw (fun b_w h1 h2 => funext (fun k_w => ec b_w k_w h1 h2)) (fun b_w h1 h2 => funext (fun k_w => em b_w k_w h1 h2))⟩
    rw [d2_w, show (0 : Int32).toInt = 0 from rfl] at hj
    omega
theorem dl_c {x1_w x2_w v_w : Int32} {c_w c' : dc_M} (f_w : d_X9_delay 1 x1_w x2_w c_w = (v_w, c')) : ∀ b_w k_w, b_w ≠ 1 → b_w ≠ c_w.2.2.1 1 7 + 8 → c'.1 b_w k_w = c_w.1 b_w k_w := by
  unfold d_X9_delay at f_w
  split at f_w
  · cases f_w; exact fun _ _ _ _ => rfl
  · split at f_w
    · cases f_w; exact fun _ _ _ _ => rfl
    · split at f_w
      · have f_w := (Prod.mk.inj f_w).2
        rw [← f_w]
        intro b_w k_w h1 h2
        rw [wi_k (by omega), wi_k (by omega)]
      · cases f_w; exact fun _ _ _ _ => rfl
theorem dl_m {x1_w x2_w v_w : Int32} {m_w m' : dc_M} (g_w : d_X10_delay 82 x1_w x2_w m_w = (v_w, m')) : ∀ b_w k_w, b_w ≠ 90 → m'.1 b_w k_w = m_w.1 b_w k_w := by
  unfold d_X10_delay at g_w
  split at g_w
  · cases g_w; exact fun _ _ _ => rfl
  · split at g_w
    · have g_w := (Prod.mk.inj g_w).2
      rw [← g_w]
      intro b_w k_w h1
      exact wi_k (by omega)
    · cases g_w; exact fun _ _ _ => rfl
theorem RAw.p20 {x1_w x2_w : Int32} {c_w m_w c' m' : dc_M} {v_w v' : Int32} (R : RAw c_w m_w) (f_w : d_X9_delay 1 x1_w x2_w c_w = (v_w, c')) (g_w : d_X10_delay 82 x1_w x2_w m_w = (v', m')) : v_w = v' ∧ RAw c' m' := by
  have ha_w := md41 R.1.1.2.2
  obtain ⟨e_w, N_w⟩ := RN.p20 R.1 f_w g_w
  exact ⟨e_w, R.kpw N_w (fun b_w k_w hb_w => dl_c f_w b_w k_w (by omega) (by omega)) (dl_m g_w 82 64 (by omega)) (dl_m g_w 82 11 (by omega)) (fun b_w k_w h1 h2 => dl_m g_w b_w k_w (by omega))⟩
/-- the marking of the run -/
theorem mk_run {c_w m_w : dc_M} (R : RAw c_w m_w) : d_X2_markingOf 37 (c_w.2.2.1 1 7) c_w = m_w.1 115 (m_w.1 82 64).toNatClampNeg := by
  obtain ⟨h1, h2, h3, h4⟩ := R.2.1
  have p2_w : c_w.1 (c_w.2.2.1 1 7) 13 = m_w.1 82 11 := R.1.2.1.2.2.1.2.2
  unfold d_X2_markingOf
  by_cases c1_w : (c_w.1 37 0).toInt ≤ 0
  · rw [if_pos c1_w, p2_w, ← h3]
    have e_w : c_w.1 37 0 = 0 := Int32.toInt_inj.mp (by rw [show (0 : Int32).toInt = 0 from rfl]; omega)
    rw [← h1, e_w]
    rfl
  · have n1_w := cl_n (x := c_w.1 37 0) (by omega)
    have e1_w : (c_w.1 37 0 - 1).toInt = (c_w.1 37 0).toInt - 1 := by rw [Int32.toInt_sub, show (1 : Int32).toInt = 1 from rfl, sx_bm (by omega) (by omega)]
    have n2_w := cl_n (x := c_w.1 37 0 - 1) (by omega)
    rw [if_neg c1_w, if_neg (by omega), show 37 + 2 = 39 from rfl, (h4 (c_w.1 37 0 - 1).toNatClampNeg (by omega)).2, ← h1, show (c_w.1 37 0 - 1).toNatClampNeg + 1 = (c_w.1 37 0).toNatClampNeg by omega]
theorem rdw_eq {a_w : Nat} {M_w x : Int32} {c_w m_w : dc_M} (e6_w : c_w.1 (a_w + 6) x.toNatClampNeg = m_w.1 88 x.toNatClampNeg) : d_X3_isReady a_w M_w x c_w = d_X10_isReady 82 x M_w m_w := by
  unfold d_X3_isReady d_X10_isReady
  rw [e6_w]
theorem usw_eq {a_w : Nat} {M_w x : Int32} {c_w m_w : dc_M} (e6_w : c_w.1 (a_w + 6) x.toNatClampNeg = m_w.1 88 x.toNatClampNeg) (e7_w : c_w.1 (a_w + 7) x.toNatClampNeg = m_w.1 89 x.toNatClampNeg) : d_X3_isUnsafe a_w M_w x c_w = d_X10_isUnsafe 82 x M_w m_w := by
  unfold d_X3_isUnsafe d_X10_isUnsafe
  rw [e6_w, e7_w]
theorem afw_eq {a_w : Nat} {M_w x : Int32} {c_w m_w : dc_M} (e6_w : c_w.1 (a_w + 6) x.toNatClampNeg = m_w.1 88 x.toNatClampNeg) (e7_w : c_w.1 (a_w + 7) x.toNatClampNeg = m_w.1 89 x.toNatClampNeg) : d_X3_after a_w M_w x c_w = d_X10_after 82 x M_w m_w := by
  unfold d_X3_after d_X10_after
  rw [e6_w, e7_w]
/-- an event comes, on both sides -/
theorem RAw.cm {c_w m_w C_w M_w : dc_M} {x w_w : Int32} (R : RAw c_w m_w) (h100 : (c_w.1 37 0).toInt < 100) (hC : C_w = dc_wi (dc_wi (dc_wi c_w 38 (c_w.1 37 0).toNatClampNeg x) 39 (c_w.1 37 0).toNatClampNeg w_w) 37 0 (c_w.1 37 0 + 1)) (hM_w : M_w = dc_wi (dc_wi (dc_wi m_w 116 (m_w.1 82 64).toNatClampNeg x) 82 64 (m_w.1 82 64 + 1)) 115 (m_w.1 82 64 + 1).toNatClampNeg w_w) : RAw C_w M_w := by
  obtain ⟨h1, h2, h3, h4⟩ := R.2.1
  have n1_w := cl_n (x := c_w.1 37 0) (by omega)
  have e1_w : (c_w.1 37 0 + 1).toInt = (c_w.1 37 0).toInt + 1 := i1 (by omega) (Int32.le_toInt _)
  have n2_w := cl_n (x := c_w.1 37 0 + 1) (by omega)
  have ec : ∀ b_w k_w, ¬ (37 ≤ b_w ∧ b_w ≤ 39) → C_w.1 b_w k_w = c_w.1 b_w k_w := fun b_w k_w h_w => by rw [hC, wi_k (by omega), wi_k (by omega), wi_k (by omega)]
  have em : ∀ b_w k_w, ¬ (b_w = 82 ∧ k_w = 64) → b_w ≠ 115 → b_w ≠ 116 → M_w.1 b_w k_w = m_w.1 b_w k_w := fun b_w k_w g1 g2 g3_w => by rw [hM_w, wi_k (by omega), wi_k (by omega), wi_k (by omega)]
  have N_w : RN C_w M_w := R.1.ot (fun b_w k_w g1 _ => ec b_w k_w g1) (by rw [hC]; rfl) (fun b_w k_w g1 g2 => em b_w k_w g1 (by omega) (by omega))
  have C0_w : C_w.1 37 0 = c_w.1 37 0 + 1 := by rw [hC]; exact wi_s
  have M0 : M_w.1 82 64 = m_w.1 82 64 + 1 := by rw [hM_w, wi_k (by omega)]; exact wi_s
  refine ⟨N_w, ⟨by rw [C0_w, M0, h1], by rw [C0_w, e1_w]; omega, ?_, fun j_w hj => ?_⟩, R.2.2.eqw (fun b_w g1 g2 => funext (fun k_w => ec b_w k_w (by omega))) (fun b_w g1 g2 => funext (fun k_w => em b_w k_w (by omega) (by omega) (by omega)))⟩
  · rw [em 82 11 (by omega) (by omega) (by omega), hM_w, wi_k (by rw [← h1]; omega), wi_k (by omega), wi_k (by omega)]
    exact h3
  · rw [C0_w, e1_w] at hj
    rw [hC, hM_w, ← h1]
    by_cases z_w : j_w = (c_w.1 37 0).toNatClampNeg
    · rw [z_w]
      refine ⟨?_, ?_⟩
      · rw [wi_k (by omega), wi_k (by omega), wi_s, wi_k (by omega), wi_k (by omega), wi_s]
      · rw [wi_k (by omega), wi_s, show (c_w.1 37 0).toNatClampNeg + 1 = (c_w.1 37 0 + 1).toNatClampNeg by omega, wi_s]
    · obtain ⟨q1_w, q2_w⟩ := h4 j_w (by omega)
      refine ⟨?_, ?_⟩
      · rw [wi_k (by omega), wi_k (by omega), wi_k (by omega), wi_k (by omega), wi_k (by omega), wi_k (by omega)]
        exact q1_w
      · rw [wi_k (by omega), wi_k (by omega), wi_k (by omega), wi_k (by omega), wi_k (by omega), wi_k (by omega)]
        exact q2_w
theorem RAw.p23 {x1_w : Int32} {c_w m_w c' m' : dc_M} {v_w v' : Int32} (R : RAw c_w m_w) (f_w : d_X9_come 1 x1_w c_w = (v_w, c')) (g_w : d_X10_come 82 x1_w m_w = (v', m')) : v_w = v' ∧ RAw c' m' := by
  have B_w := NB.ofw R.1.2.1
  have mk_w := mk_run R
  obtain ⟨h1, h2, h3, h4⟩ := R.2.1
  obtain ⟨n1_w, -, n1l⟩ := R.1.2.1.2.1
  unfold d_X9_come at f_w
  unfold d_X10_come at g_w
  rw [show 1 + 36 = 37 from rfl, mk_w] at f_w
  by_cases c1_w : 0 ≤ x1_w.toInt ∧ x1_w.toInt < (m_w.1 82 3).toInt
  · have nx := cl_n c1_w.1
    obtain ⟨-, -, -, l6, l7, -⟩ := n1l x1_w.toNatClampNeg (by rw [n1_w]; omega)
    rw [if_pos (fun q_w => (hv_0.mp q_w) (by rw [n1_w]; exact c1_w))] at f_w
    rw [if_pos (fun q_w => ((ev_0 B_w.2.1).mp q_w) c1_w)] at g_w
    have g_w : (if (d_X10_isReady 82 x1_w (m_w.1 115 (m_w.1 82 64).toNatClampNeg) m_w).toInt = 0 then ((-2 : Int32), m_w) else if (d_X10_isUnsafe 82 x1_w (m_w.1 115 (m_w.1 82 64).toNatClampNeg) m_w).toInt = 0 then (if ¬ (m_w.1 82 64).toInt = 100 then (m_w.1 82 64 + 1, dc_wi (dc_wi (dc_wi m_w 116 (m_w.1 82 64).toNatClampNeg x1_w) 82 64 (m_w.1 82 64 + 1)) 115 (m_w.1 82 64 + 1).toNatClampNeg (d_X10_after 82 x1_w (m_w.1 115 (m_w.1 82 64).toNatClampNeg) m_w)) else ((-3 : Int32), m_w)) else ((-2 : Int32), m_w)) = (v', m') := g_w
    unfold d_X3_canCome at f_w
    rw [rdw_eq l6, usw_eq l6 l7, afw_eq l6 l7] at f_w
    by_cases c2_w : (d_X10_isReady 82 x1_w (m_w.1 115 (m_w.1 82 64).toNatClampNeg) m_w).toInt = 0
    · rw [if_pos c2_w] at f_w g_w
      rw [if_neg (fun q_w => q_w rfl)] at f_w
      cases f_w
      cases g_w
      exact ⟨rfl, R⟩
    · rw [if_neg c2_w] at f_w g_w
      by_cases c3_w : (d_X10_isUnsafe 82 x1_w (m_w.1 115 (m_w.1 82 64).toNatClampNeg) m_w).toInt = 0
      · rw [if_neg (show ¬ ¬ (d_X10_isUnsafe 82 x1_w (m_w.1 115 (m_w.1 82 64).toNatClampNeg) m_w).toInt = 0 from fun q_w => q_w c3_w), if_pos (show ¬ ((1 : Int32).toInt = 0) by decide)] at f_w
        rw [if_pos c3_w] at g_w
        rw [dc_let_eq] at f_w
        unfold d_X2_add at f_w
        by_cases c4_w : (c_w.1 37 0).toInt < 100
        · rw [if_pos c4_w] at f_w
          rw [if_pos (show ¬ (m_w.1 82 64).toInt = 100 by rw [← h1]; omega)] at g_w
          have f_w := Prod.mk.inj f_w
          have g_w := Prod.mk.inj g_w
          have R2 := RAw.cm R c4_w f_w.2.symm g_w.2.symm
          refine ⟨?_, R2⟩
          rw [← f_w.1, ← g_w.1, ← h1]
          exact wi_s
        · rw [if_neg c4_w] at f_w
          rw [if_neg (show ¬ ¬ (m_w.1 82 64).toInt = 100 by rw [← h1]; omega)] at g_w
          have f_w := Prod.mk.inj f_w
          have g_w := Prod.mk.inj g_w
          rw [← f_w.1, ← g_w.1, ← f_w.2, ← g_w.2]
          exact ⟨rfl, R⟩
      · rw [if_pos c3_w, if_neg (fun q_w => q_w rfl)] at f_w
        rw [if_neg c3_w] at g_w
        cases f_w
        cases g_w
        exact ⟨rfl, R⟩
  · rw [if_neg (fun q_w => q_w (hv_0.mpr (by rw [n1_w]; exact c1_w)))] at f_w
    rw [if_neg (fun q_w => q_w ((ev_0 B_w.2.1).mpr c1_w))] at g_w
    cases f_w
    cases g_w
    exact ⟨rfl, R⟩
theorem RAw.p24 {c_w m_w c' m' : dc_M} {v_w v' : Int32} (R : RAw c_w m_w) (f_w : d_X9_undo 1 c_w = (v_w, c')) (g_w : d_X10_undo 82 m_w = (v', m')) : v_w = v' ∧ RAw c' m' := by
  obtain ⟨h1, h2, h3, h4⟩ := R.2.1
  unfold d_X9_undo d_X2_dropLatest at f_w
  unfold d_X10_undo at g_w
  rw [show 1 + 36 = 37 from rfl, dc_let_eq] at f_w
  by_cases c1_w : 0 < (c_w.1 37 0).toInt
  · have e1_w : (c_w.1 37 0 - 1).toInt = (c_w.1 37 0).toInt - 1 := by rw [Int32.toInt_sub, show (1 : Int32).toInt = 1 from rfl, sx_bm (by omega) (by omega)]
    rw [if_pos c1_w] at f_w
    rw [if_pos (show ¬ (m_w.1 82 64).toInt = 0 by rw [← h1]; omega)] at g_w
    have f_w : ((dc_wi c_w 37 0 (c_w.1 37 0 - 1)).1 37 0, dc_wi c_w 37 0 (c_w.1 37 0 - 1)) = (v_w, c') := f_w
    have f_w := Prod.mk.inj f_w
    have g_w := Prod.mk.inj g_w
    have C0_w : c'.1 37 0 = c_w.1 37 0 - 1 := by rw [← f_w.2]; exact wi_s
    have M0 : m'.1 82 64 = m_w.1 82 64 - 1 := by rw [← g_w.2]; exact wi_s
    have ec : ∀ b_w k_w, b_w ≠ 37 → c'.1 b_w k_w = c_w.1 b_w k_w := fun b_w k_w h_w => by rw [← f_w.2]; exact wi_k (by omega)
    have em : ∀ b_w k_w, ¬ (b_w = 82 ∧ k_w = 64) → m'.1 b_w k_w = m_w.1 b_w k_w := fun b_w k_w h_w => by rw [← g_w.2]; exact wi_k h_w
    have N_w : RN c' m' := R.1.ot (fun b_w k_w g1 _ => ec b_w k_w (by omega)) (by rw [← f_w.2]; rfl) (fun b_w k_w g1 _ => em b_w k_w g1)
    refine ⟨by rw [← f_w.1, ← g_w.1, ← h1]; exact wi_s, N_w, ⟨by rw [C0_w, M0, h1], by rw [C0_w, e1_w]; omega, by rw [em 115 0 (by omega), em 82 11 (by omega)]; exact h3, fun j_w hj => ?_⟩, R.2.2.eqw (fun b_w g1 g2 => funext (fun k_w => ec b_w k_w (by omega))) (fun b_w g1 g2 => funext (fun k_w => em b_w k_w (by omega)))⟩
    rw [C0_w, e1_w] at hj
    rw [ec 38 j_w (by omega), ec 39 j_w (by omega), em 116 j_w (by omega), em 115 (j_w + 1) (by omega)]
    exact h4 j_w (by omega)
  · rw [if_neg c1_w] at f_w
    rw [if_neg (show ¬ ¬ (m_w.1 82 64).toInt = 0 by rw [← h1]; omega)] at g_w
    have f_w : ((-4 : Int32), c_w) = (v_w, c') := f_w
    cases f_w
    cases g_w
    exact ⟨rfl, R⟩
