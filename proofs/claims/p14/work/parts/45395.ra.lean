/-! ===== the run and rows: what both sides answer ===== -/
theorem rne_end {x1_w x2_w x3 v_w : Int32} {m_w : dc_M} (h_w : d_X10_run_l4 82 x1_w x2_w x3 m_w = some v_w) : (x1_w.toInt = 0 → v_w = m_w.1 115 (m_w.1 82 64).toNatClampNeg) ∧ (x1_w.toInt = 2 → v_w = m_w.1 82 64) ∧ (x1_w.toInt = 3 → v_w = if ¬ (m_w.1 82 64).toInt = 0 then m_w.1 116 (m_w.1 82 64 - 1).toNatClampNeg else -4) ∧ (x1_w.toInt ≠ 0 → x1_w.toInt ≠ 1 → x1_w.toInt ≠ 2 → x1_w.toInt ≠ 3 → v_w = -1) := by
  unfold d_X10_run_l4 at h_w
  refine dc_lp_inv (fun _ => True) (fun v_w : Int32 => (x1_w.toInt = 0 → v_w = m_w.1 115 (m_w.1 82 64).toNatClampNeg) ∧ (x1_w.toInt = 2 → v_w = m_w.1 82 64) ∧ (x1_w.toInt = 3 → v_w = if ¬ (m_w.1 82 64).toInt = 0 then m_w.1 116 (m_w.1 82 64 - 1).toNatClampNeg else -4) ∧ (x1_w.toInt ≠ 0 → x1_w.toInt ≠ 1 → x1_w.toInt ≠ 2 → x1_w.toInt ≠ 3 → v_w = -1)) (fun _ _ _ _ => trivial) (fun s v_w _ hs => ?_) trivial h_w
  have hs : d_X10_run_l4b 82 x1_w s.1 s.2 m_w = some (.inr v_w) := hs
  unfold d_X10_run_l4b at hs
  by_cases c1_w : (m_w.1 82 3).toInt ≤ s.2.toInt
  · rw [if_pos c1_w] at hs
    unfold d_X10_run_b45 at hs
    by_cases c2_w : x1_w.toInt = 0
    · rw [if_neg (fun q_w => q_w c2_w)] at hs
      have hs := Sum.inr.inj (Option.some.inj hs)
      exact ⟨fun _ => hs.symm, fun q_w => by omega, fun q_w => by omega, fun q_w => absurd c2_w q_w⟩
    · rw [if_pos c2_w] at hs
      by_cases c3_w : x1_w.toInt = 1
      · exact ⟨fun q_w => absurd q_w c2_w, fun q_w => by omega, fun q_w => by omega, fun _ q_w => absurd c3_w q_w⟩
      · rw [if_pos c3_w] at hs
        by_cases c4_w : x1_w.toInt = 2
        · rw [if_neg (fun q_w => q_w c4_w)] at hs
          have hs := Sum.inr.inj (Option.some.inj hs)
          exact ⟨fun q_w => absurd q_w c2_w, fun _ => hs.symm, fun q_w => by omega, fun _ _ q_w => absurd c4_w q_w⟩
        · rw [if_pos c4_w] at hs
          by_cases c5_w : x1_w.toInt = 3
          · rw [if_neg (fun q_w => q_w c5_w)] at hs
            refine ⟨fun q_w => absurd q_w c2_w, fun q_w => absurd q_w c4_w, fun _ => ?_, fun _ _ _ q_w => absurd c5_w q_w⟩
            by_cases c6_w : (m_w.1 82 64).toInt = 0
            · rw [if_neg (fun q_w => q_w c6_w)] at hs ⊢
              exact (Sum.inr.inj (Option.some.inj hs)).symm
            · rw [if_pos c6_w] at hs ⊢
              exact (Sum.inr.inj (Option.some.inj hs)).symm
          · rw [if_pos c5_w] at hs
            have hs := Sum.inr.inj (Option.some.inj hs)
            exact ⟨fun q_w => absurd q_w c2_w, fun q_w => absurd q_w c4_w, fun q_w => absurd q_w c5_w, fun _ _ _ _ => hs.symm⟩
  · rw [if_neg c1_w] at hs
    split at hs <;> cases hs
theorem rdy_sim {a_w : Nat} {x1_w M_w q_w v_w : Int32} {c_w m_w : dc_M} (N_w : NR a_w c_w m_w) (hM_w : M_w = m_w.1 115 (m_w.1 82 64).toNatClampNeg) (h1 : x1_w.toInt = 1) (f_w : d_X3_readyAt a_w M_w c_w = some q_w) (g_w : d_X10_run_l4 82 x1_w 0 0 m_w = some v_w) : q_w = v_w := by
  obtain ⟨-, ⟨n1_w, n1b, n1l⟩, -⟩ := N_w
  unfold d_X3_readyAt d_X3_readyAt_l4 at f_w
  unfold d_X10_run_l4 at g_w
  refine dc_lp_sim (s := ((0 : Int32), (0 : Int32))) (t := ((0 : Int32), (0 : Int32))) (fun s t : Int32 × Int32 => s = t ∧ 0 ≤ s.2.toInt) (fun q_w v_w : Int32 => q_w = v_w) (fun s t y z_w hR hf hg => ?_) ⟨rfl, by decide⟩ f_w g_w
  obtain ⟨rfl, j0⟩ := hR
  have hf : d_X3_readyAt_l4b a_w M_w s.1 s.2 c_w = some y := hf
  have hg : d_X10_run_l4b 82 x1_w s.1 s.2 m_w = some z_w := hg
  unfold d_X3_readyAt_l4b at hf
  unfold d_X10_run_l4b at hg
  rw [← n1_w] at hg
  by_cases c1_w : (c_w.1 a_w 1).toInt ≤ s.2.toInt
  · rw [if_pos c1_w] at hf hg
    unfold d_X10_run_b45 at hg
    rw [if_pos (show ¬ x1_w.toInt = 0 by omega), if_neg (fun q_w => q_w h1)] at hg
    exact Or.inr ⟨_, _, (Option.some.inj hf).symm, (Option.some.inj hg).symm, rfl⟩
  · rw [if_neg c1_w] at hf hg
    have hn := cl_n j0
    have e1_w : (s.2 + 1).toInt = s.2.toInt + 1 := i1 (by omega) (Int32.le_toInt _)
    obtain ⟨-, -, -, l6, -⟩ := n1l s.2.toNatClampNeg (by omega)
    rw [rdw_eq l6, hM_w] at hf
    have hg : (if (d_X10_isReady 82 s.2 (m_w.1 115 (m_w.1 82 64).toNatClampNeg) m_w).toInt = 0 then some (Sum.inl (s.1 ||| 0, s.2 + 1)) else some (Sum.inl (s.1 ||| ((1 : Int32) <<< (s.2 &&& 31)), s.2 + 1))) = some z_w := hg
    by_cases c2_w : (d_X10_isReady 82 s.2 (m_w.1 115 (m_w.1 82 64).toNatClampNeg) m_w).toInt = 0
    · rw [if_pos c2_w] at hf hg
      rw [or_0] at hg
      refine Or.inl ⟨_, _, (Option.some.inj hf).symm, (Option.some.inj hg).symm, rfl, ?_⟩
      show 0 ≤ (s.2 + 1).toInt
      omega
    · rw [if_neg c2_w] at hf hg
      refine Or.inl ⟨_, _, (Option.some.inj hf).symm, (Option.some.inj hg).symm, rfl, ?_⟩
      show 0 ≤ (s.2 + 1).toInt
      omega
theorem RAw.p25 {x1_w : Int32} {c_w m_w c' m' : dc_M} {v_w v' : Int32} (R_w : RAw c_w m_w) (f_w : d_X9_run 1 x1_w c_w = some v_w ∧ c' = c_w) (g_w : d_X10_run 82 x1_w m_w = some v' ∧ m' = m_w) : v_w = v' ∧ RAw c' m' := by
  obtain ⟨f_w, rfl⟩ := f_w
  obtain ⟨g_w, rfl⟩ := g_w
  refine ⟨?_, R_w⟩
  have mk_w := mk_run R_w
  obtain ⟨h1, h2, h3, h4⟩ := R_w.2.1
  unfold d_X9_run at f_w
  unfold d_X10_run at g_w
  rw [show 1 + 36 = 37 from rfl, mk_w] at f_w
  obtain ⟨g0, g2, g3_w, g4⟩ := rne_end g_w
  by_cases c0_w : x1_w.toInt = 0
  · rw [if_pos c0_w] at f_w
    rw [g0 c0_w]
    exact (Option.some.inj f_w).symm
  · rw [if_neg c0_w] at f_w
    by_cases c1_w : x1_w.toInt = 1
    · rw [if_pos c1_w] at f_w
      cases hq : d_X3_readyAt (c'.2.2.1 1 7) (m'.1 115 (m'.1 82 64).toNatClampNeg) c' with
      | none => rw [hq] at f_w; cases f_w
      | some q_w =>
        rw [hq] at f_w
        rw [← Option.some.inj f_w]
        exact rdy_sim R_w.1.2.1 rfl c1_w hq g_w
    · rw [if_neg c1_w] at f_w
      by_cases c2_w : x1_w.toInt = 2
      · rw [if_pos c2_w] at f_w
        rw [g2 c2_w, ← h1]
        exact (Option.some.inj f_w).symm
      · rw [if_neg c2_w] at f_w
        by_cases c3_w : x1_w.toInt = 3
        · rw [if_pos c3_w] at f_w
          rw [g3_w c3_w]
          refine (Option.some.inj f_w).symm.trans ?_
          unfold d_X2_latest
          by_cases c4_w : (c'.1 37 0).toInt ≤ 0
          · rw [if_pos c4_w, if_neg (show ¬ ¬ (m'.1 82 64).toInt = 0 by rw [← h1]; omega)]
          · have e1_w : (c'.1 37 0 - 1).toInt = (c'.1 37 0).toInt - 1 := by rw [Int32.toInt_sub, show (1 : Int32).toInt = 1 from rfl, sx_bm (by omega) (by omega)]
            have n2_w := cl_n (x := c'.1 37 0 - 1) (by omega)
            rw [if_neg c4_w, if_neg (by omega), if_pos (show ¬ (m'.1 82 64).toInt = 0 by rw [← h1]; omega), ← h1]
            exact (h4 (c'.1 37 0 - 1).toNatClampNeg (by omega)).1
        · rw [if_neg c3_w] at f_w
          rw [g4 c0_w c1_w c2_w c3_w]
          exact (Option.some.inj f_w).symm
/-- all cells of a_w row are there -/
theorem rw_71 {x1_w x3 x4_w x5_w v_w : Int32} {m_w : dc_M} (hl : 0 ≤ (m_w.1 118 x1_w.toNatClampNeg).toInt ∧ (m_w.1 118 x1_w.toNatClampNeg).toInt ≤ 64) (hn : x4_w.toInt ≤ 64) (h5 : x5_w.toInt = 0) (h_w : d_X10_row_l71 82 x1_w x3 x4_w x5_w m_w = some v_w) : ((x4_w.toInt ≤ 0 ∨ (0 ≤ x3.toInt ∧ x3.toInt + x4_w.toInt ≤ (m_w.1 118 x1_w.toNatClampNeg).toInt)) ∧ d_X10_row_l118 82 x1_w x3 x4_w (m_w.1 82 11) 0 m_w = some v_w) ∨ (0 < x4_w.toInt ∧ ¬ (0 ≤ x3.toInt ∧ x3.toInt + x4_w.toInt ≤ (m_w.1 118 x1_w.toNatClampNeg).toInt) ∧ v_w = -12) := by
  have b1 := Int32.le_toInt x3
  have b2 := Int32.toInt_lt x3
  have e1_w : (m_w.1 118 x1_w.toNatClampNeg - 1).toInt = (m_w.1 118 x1_w.toNatClampNeg).toInt - 1 := by rw [Int32.toInt_sub, show (1 : Int32).toInt = 1 from rfl, sx_bm (by omega) (by omega)]
  unfold d_X10_row_l71 at h_w
  refine dc_lp_inv (s := x5_w) (fun s : Int32 => 0 ≤ s.toInt ∧ (s.toInt = 0 ∨ (0 ≤ x3.toInt ∧ s.toInt ≤ x4_w.toInt ∧ x3.toInt + s.toInt ≤ (m_w.1 118 x1_w.toNatClampNeg).toInt))) (fun v_w : Int32 => ((x4_w.toInt ≤ 0 ∨ (0 ≤ x3.toInt ∧ x3.toInt + x4_w.toInt ≤ (m_w.1 118 x1_w.toNatClampNeg).toInt)) ∧ d_X10_row_l118 82 x1_w x3 x4_w (m_w.1 82 11) 0 m_w = some v_w) ∨ (0 < x4_w.toInt ∧ ¬ (0 ≤ x3.toInt ∧ x3.toInt + x4_w.toInt ≤ (m_w.1 118 x1_w.toNatClampNeg).toInt) ∧ v_w = -12)) (fun s s' hI hs => ?_) (fun s v_w hI hs => ?_) ⟨by omega, Or.inl h5⟩ h_w
  · obtain ⟨j0, j1⟩ := hI
    have hs : d_X10_row_l71b 82 x1_w x3 x4_w s m_w = some (.inl s') := hs
    unfold d_X10_row_l71b at hs
    by_cases c1_w : x4_w.toInt ≤ s.toInt
    · rw [if_pos c1_w] at hs
      cases hb_w : d_X10_row_l118 82 x1_w x3 x4_w (m_w.1 82 11) 0 m_w with
      | none => rw [hb_w] at hs; cases hs
      | some z_w => rw [hb_w] at hs; cases hs
    · rw [if_neg c1_w] at hs
      have ex_w : (Int32.toInt64 x3 + Int32.toInt64 s).toInt = x3.toInt + s.toInt := by
        rw [Int64.toInt_add, di_il, di_il, sx_bm64 (by omega) (by omega)]
      rw [di_in, ex_w, di_il, show (0 : Int64).toInt = 0 from rfl, show 82 + 36 = 118 from rfl, e1_w] at hs
      by_cases c2_w : 0 ≤ x3.toInt + s.toInt ∧ x3.toInt + s.toInt ≤ (m_w.1 118 x1_w.toNatClampNeg).toInt - 1
      · rw [if_pos (fun q_w => (di_ine.mp q_w) c2_w)] at hs
        have hs := Sum.inl.inj (Option.some.inj hs)
        rw [← hs]
        have e2_w : (s + 1).toInt = s.toInt + 1 := i1 (by omega) (Int32.le_toInt _)
        exact ⟨by omega, Or.inr ⟨by omega, by omega, by omega⟩⟩
      · rw [if_neg (fun q_w => q_w (di_ine.mpr c2_w))] at hs; cases hs
  · obtain ⟨j0, j1⟩ := hI
    have hs : d_X10_row_l71b 82 x1_w x3 x4_w s m_w = some (.inr v_w) := hs
    unfold d_X10_row_l71b at hs
    by_cases c1_w : x4_w.toInt ≤ s.toInt
    · rw [if_pos c1_w] at hs
      cases hb_w : d_X10_row_l118 82 x1_w x3 x4_w (m_w.1 82 11) 0 m_w with
      | none => rw [hb_w] at hs; cases hs
      | some z_w =>
        rw [hb_w] at hs
        have hs := Sum.inr.inj (Option.some.inj hs)
        rw [← hs]
        exact Or.inl ⟨by omega, rfl⟩
    · rw [if_neg c1_w] at hs
      have ex_w : (Int32.toInt64 x3 + Int32.toInt64 s).toInt = x3.toInt + s.toInt := by
        rw [Int64.toInt_add, di_il, di_il, sx_bm64 (by omega) (by omega)]
      rw [di_in, ex_w, di_il, show (0 : Int64).toInt = 0 from rfl, show 82 + 36 = 118 from rfl, e1_w] at hs
      by_cases c2_w : 0 ≤ x3.toInt + s.toInt ∧ x3.toInt + s.toInt ≤ (m_w.1 118 x1_w.toNatClampNeg).toInt - 1
      · rw [if_pos (fun q_w => (di_ine.mp q_w) c2_w)] at hs; cases hs
      · rw [if_neg (fun q_w => q_w (di_ine.mpr c2_w))] at hs
        have hs := Sum.inr.inj (Option.some.inj hs)
        exact Or.inr ⟨by omega, by omega, hs.symm⟩
/-- a_w row of events, judged on both sides -/
theorem rw_sim {a_w k_w : Nat} {x1_w x3 x4_w M_w v_w v' : Int32} {c_w m_w : dc_M} (N_w : NR a_w c_w m_w) (ha_w : c_w.2.2.1 1 7 = a_w) (hx : 0 ≤ x1_w.toInt ∧ x1_w.toInt ≤ 3) (hk : k_w = 74 + 2 * x1_w.toNatClampNeg) (hl : (m_w.1 118 x1_w.toNatClampNeg).toInt ≤ 64) (hc_w : x4_w.toInt ≤ 0 ∨ (0 ≤ x3.toInt ∧ x3.toInt + x4_w.toInt ≤ (m_w.1 118 x1_w.toNatClampNeg).toInt)) (s5 : ∀ y : Nat, (y : Int) < (m_w.1 118 x1_w.toNatClampNeg).toInt → c_w.1 (75 + 2 * x1_w.toNatClampNeg) y = m_w.1 119 (64 * x1_w.toNatClampNeg + y)) (f_w : d_X9_row_l86 1 x3 x4_w k_w M_w 0 c_w = some v_w) (g_w : d_X10_row_l118 82 x1_w x3 x4_w M_w 0 m_w = some v') : v_w = v' := by
  have B_w := NB.ofw N_w
  obtain ⟨-, ⟨n1_w, n1b, n1l⟩, -⟩ := N_w
  unfold d_X9_row_l86 at f_w
  unfold d_X10_row_l118 at g_w
  refine dc_lp_sim (s := (M_w, (0 : Int32))) (t := (M_w, (0 : Int32))) (fun s t : Int32 × Int32 => s = t ∧ 0 ≤ s.2.toInt) (fun q_w v_w : Int32 => q_w = v_w) (fun s t y z_w hR hf hg => ?_) ⟨rfl, show (0 : Int) ≤ (0 : Int32).toInt by decide⟩ f_w g_w
  obtain ⟨rfl, j0⟩ := hR
  have hf : d_X9_row_l86b 1 x3 x4_w k_w s.1 s.2 c_w = some y := hf
  have hg : d_X10_row_l118b 82 x1_w x3 x4_w s.1 s.2 m_w = some z_w := hg
  unfold d_X9_row_l86b at hf
  unfold d_X10_row_l118b at hg
  by_cases c1_w : x4_w.toInt ≤ s.2.toInt
  · rw [if_pos c1_w] at hf hg
    exact Or.inr ⟨_, _, (Option.some.inj hf).symm, (Option.some.inj hg).symm, rfl⟩
  · rw [if_neg c1_w] at hf hg
    have hc_w : 0 ≤ x3.toInt ∧ x3.toInt + x4_w.toInt ≤ (m_w.1 118 x1_w.toNatClampNeg).toInt := by omega
    have e1_w : (s.2 + 1).toInt = s.2.toInt + 1 := i1 (by omega) (Int32.le_toInt _)
    have e2_w : (x3 + s.2).toInt = x3.toInt + s.2.toInt := by rw [Int32.toInt_add, sx_bm (by omega) (by omega)]
    have nx := cl_n (x := x3 + s.2) (by omega)
    have ix := shk_ix hx (y := x3 + s.2) ⟨by omega, by omega⟩
    have cell_w : c_w.1 (k_w + 1) (x3 + s.2).toNatClampNeg = m_w.1 119 ((((64 : Int32) * x1_w) + x3) + s.2).toNatClampNeg := by
      rw [Int32.add_assoc, ix, hk, show 74 + 2 * x1_w.toNatClampNeg + 1 = 75 + 2 * x1_w.toNatClampNeg by omega]
      exact s5 _ (by omega)
    rw [cell_w, ha_w] at hf
    have hg : (if (d_X10_isEvent 82 (m_w.1 119 ((((64 : Int32) * x1_w) + x3) + s.2).toNatClampNeg) m_w).toInt = 0 then some (Sum.inr s.2) else if (d_X10_isReady 82 (m_w.1 119 ((((64 : Int32) * x1_w) + x3) + s.2).toNatClampNeg) s.1 m_w).toInt = 0 then some (Sum.inr s.2) else if (d_X10_isUnsafe 82 (m_w.1 119 ((((64 : Int32) * x1_w) + x3) + s.2).toNatClampNeg) s.1 m_w).toInt = 0 then some (Sum.inl (d_X10_after 82 (m_w.1 119 ((((64 : Int32) * x1_w) + x3) + s.2).toNatClampNeg) s.1 m_w, s.2 + 1)) else some (Sum.inr s.2)) = some z_w := hg
    generalize m_w.1 119 ((((64 : Int32) * x1_w) + x3) + s.2).toNatClampNeg = ev at hf hg
    by_cases c2_w : 0 ≤ ev.toInt ∧ ev.toInt < (m_w.1 82 3).toInt
    · have ne_w := cl_n c2_w.1
      obtain ⟨-, -, -, l6, l7, -⟩ := n1l ev.toNatClampNeg (by rw [n1_w]; omega)
      rw [if_neg (fun q_w => (hv_0.mp q_w) (by rw [n1_w]; exact c2_w))] at hf
      rw [if_neg (fun q_w => ((ev_0 B_w.2.1).mp q_w) c2_w)] at hg
      unfold d_X3_canCome at hf
      rw [rdw_eq l6, usw_eq l6 l7, afw_eq l6 l7] at hf
      by_cases c3_w : (d_X10_isReady 82 ev s.1 m_w).toInt = 0
      · rw [if_pos c3_w] at hf hg
        rw [if_neg (fun q_w => q_w rfl)] at hf
        exact Or.inr ⟨_, _, (Option.some.inj hf).symm, (Option.some.inj hg).symm, rfl⟩
      · rw [if_neg c3_w] at hf hg
        by_cases c4_w : (d_X10_isUnsafe 82 ev s.1 m_w).toInt = 0
        · rw [if_neg (show ¬ ¬ (d_X10_isUnsafe 82 ev s.1 m_w).toInt = 0 from fun q_w => q_w c4_w), if_pos (show ¬ ((1 : Int32).toInt = 0) by decide)] at hf
          rw [if_pos c4_w] at hg
          refine Or.inl ⟨_, _, (Option.some.inj hf).symm, (Option.some.inj hg).symm, rfl, ?_⟩
          show 0 ≤ (s.2 + 1).toInt
          omega
        · rw [if_pos c4_w, if_neg (fun q_w => q_w rfl)] at hf
          rw [if_neg c4_w] at hg
          exact Or.inr ⟨_, _, (Option.some.inj hf).symm, (Option.some.inj hg).symm, rfl⟩
    · rw [if_pos (hv_0.mpr (by rw [n1_w]; exact c2_w))] at hf
      rw [if_pos ((ev_0 B_w.2.1).mpr c2_w)] at hg
      exact Or.inr ⟨_, _, (Option.some.inj hf).symm, (Option.some.inj hg).symm, rfl⟩
theorem RAw.p28 {x1_w x2_w x3 x4_w : Int32} {c_w m_w c' m' : dc_M} {v_w v' : Int32} (h40 : ∀ j, j < 4 → c_w.2.2.1 40 j = 74 + 2 * j) (R_w : RAw c_w m_w) (f_w : d_X9_row 1 x1_w x2_w x3 x4_w c_w = some v_w ∧ c' = c_w) (g_w : d_X10_row 82 x1_w x2_w x3 x4_w m_w = some v' ∧ m' = m_w) : v_w = v' ∧ RAw c' m' := by
  obtain ⟨f_w, rfl⟩ := f_w
  obtain ⟨g_w, rfl⟩ := g_w
  refine ⟨?_, R_w⟩
  have p2_w : c'.1 (c'.2.2.1 1 7) 13 = m'.1 82 11 := R_w.1.2.1.2.2.1.2.2
  unfold d_X9_row at f_w
  unfold d_X10_row at g_w
  rw [shk_is, shk_ln, p2_w] at f_w
  rw [di_in, di_in, di_in, di_il, di_il, di_il, show (0 : Int64).toInt = 0 from rfl, show (3 : Int64).toInt = 3 from rfl, show (2 : Int64).toInt = 2 from rfl, show (64 : Int64).toInt = 64 from rfl, show 82 + 35 = 117 from rfl] at g_w
  by_cases c1_w : 0 ≤ x1_w.toInt ∧ x1_w.toInt ≤ 3
  · have n1_w := cl_n c1_w.1
    have hj : x1_w.toNatClampNeg < 4 := by omega
    rw [if_neg (fun q_w => (di_ine.mp q_w) c1_w)] at f_w g_w
    rw [show 1 + 39 = 40 from rfl, h40 _ hj] at f_w
    by_cases c2_w : 0 ≤ x2_w.toInt ∧ x2_w.toInt ≤ 2
    · rw [if_neg (fun q_w => (di_ine.mp q_w) c2_w)] at f_w g_w
      by_cases c3_w : 0 ≤ x4_w.toInt ∧ x4_w.toInt ≤ 64
      · rw [if_neg (show ¬ x4_w.toInt < 0 by omega), if_pos c3_w.2] at f_w
        rw [if_pos (fun q_w => (di_ine.mp q_w) c3_w)] at g_w
        unfold d_X6_faultAs d_X6_isNothing d_X6_hasCells at f_w
        rcases R_w.2.2 x1_w.toNatClampNeg hj with ⟨s1_w, s2_w⟩ | ⟨s1_w, s2_w, s3_w, s4_w, s5⟩
        · rw [if_neg (show ¬ 0 ≤ (c'.1 (74 + 2 * x1_w.toNatClampNeg) 0).toInt by omega), if_neg (show ¬ ((1 : Int32).toInt = 0) by decide), if_neg (show ¬ ((1 : Int32).toInt = 0) by decide)] at f_w
          rw [if_neg (show ¬ (m'.1 117 x1_w.toNatClampNeg).toInt = x2_w.toInt by rw [s2_w, show (-4 : Int32).toInt = -4 from rfl]; omega), if_neg (show ¬ ¬ (m'.1 117 x1_w.toNatClampNeg).toInt = -4 by rw [s2_w]; exact fun q_w => q_w rfl)] at g_w
          exact (Option.some.inj f_w).symm.trans (Option.some.inj g_w)
        · rw [s1_w, s3_w] at f_w
          rw [if_pos (show 0 ≤ (m'.1 118 x1_w.toNatClampNeg).toInt from s2_w.1), if_pos (show (0 : Int32).toInt = 0 from rfl)] at f_w
          by_cases c4_w : (m'.1 117 x1_w.toNatClampNeg).toInt = x2_w.toInt
          · rw [if_neg (show ¬ ¬ x2_w.toInt = (m'.1 117 x1_w.toNatClampNeg).toInt by omega), if_pos (show (0 : Int32).toInt = 0 from rfl)] at f_w
            rw [if_pos c4_w] at g_w
            have e1_w : (m'.1 118 x1_w.toNatClampNeg - x4_w).toInt = (m'.1 118 x1_w.toNatClampNeg).toInt - x4_w.toInt := by rw [Int32.toInt_sub, sx_bm (by omega) (by omega)]
            rcases rw_71 s2_w c3_w.2 rfl g_w with ⟨k1_w, k2_w⟩ | ⟨k1_w, k2_w, k3_w⟩
            · have f_w : d_X9_row_l86 1 x3 x4_w (74 + 2 * x1_w.toNatClampNeg) (m'.1 82 11) 0 c' = some v_w := by
                by_cases c5_w : x4_w.toInt ≤ 0
                · rw [if_pos c5_w] at f_w
                  exact f_w
                · rw [if_neg c5_w, if_neg (show ¬ x3.toInt < 0 by omega), e1_w, if_neg (show ¬ (m'.1 118 x1_w.toNatClampNeg).toInt - x4_w.toInt < x3.toInt by omega), if_pos (show ¬ ((1 : Int32).toInt = 0) by decide)] at f_w
                  exact f_w
              exact rw_sim R_w.1.2.1 rfl c1_w rfl s2_w.2 k1_w s5 f_w k2_w
            · rw [if_neg (show ¬ x4_w.toInt ≤ 0 by omega)] at f_w
              rw [k3_w]
              by_cases c6_w : x3.toInt < 0
              · rw [if_pos c6_w, if_neg (fun q_w => q_w rfl)] at f_w
                exact (Option.some.inj f_w).symm
              · rw [if_neg c6_w, e1_w, if_pos (show (m'.1 118 x1_w.toNatClampNeg).toInt - x4_w.toInt < x3.toInt by omega), if_neg (fun q_w => q_w rfl)] at f_w
                exact (Option.some.inj f_w).symm
          · rw [if_pos (show ¬ x2_w.toInt = (m'.1 117 x1_w.toNatClampNeg).toInt by omega), if_neg (show ¬ ((3 : Int32).toInt = 0) by decide)] at f_w
            rw [if_neg c4_w, if_pos (show ¬ (m'.1 117 x1_w.toNatClampNeg).toInt = -4 by omega)] at g_w
            exact (Option.some.inj f_w).symm.trans (Option.some.inj g_w)
      · rw [if_neg (fun q_w => q_w (di_ine.mpr c3_w))] at g_w
        have f_w : some (-1 : Int32) = some v_w := by
          by_cases h1 : x4_w.toInt < 0
          · rw [if_pos h1] at f_w
            exact f_w
          · rw [if_neg h1, if_neg (show ¬ x4_w.toInt ≤ 64 by omega)] at f_w
            exact f_w
        exact (Option.some.inj f_w).symm.trans (Option.some.inj g_w)
    · rw [if_pos (di_ine.mpr c2_w)] at f_w g_w
      exact (Option.some.inj f_w).symm.trans (Option.some.inj g_w)
  · rw [if_pos (di_ine.mpr c1_w)] at f_w g_w
    exact (Option.some.inj f_w).symm.trans (Option.some.inj g_w)
