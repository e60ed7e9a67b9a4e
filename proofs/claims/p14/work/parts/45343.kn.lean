/-! ===== a_w cure that is tried and dropped leaves the reference's net as it was ===== -/
def KNw (m0_w m_w : dc_M) : Prop := (∀ k_w, k_w = 0 ∨ k_w = 3 ∨ k_w = 10 ∨ k_w = 11 ∨ k_w = 13 ∨ k_w = 14 ∨ k_w = 64 → m_w.1 82 k_w = m0_w.1 82 k_w) ∧ (∀ b_w k_w : Nat, b_w = 83 ∨ b_w = 84 → (k_w : Int) < (m0_w.1 82 0).toInt → m_w.1 b_w k_w = m0_w.1 b_w k_w) ∧ (∀ b_w k_w : Nat, 85 ≤ b_w → b_w ≤ 90 → (k_w : Int) < (m0_w.1 82 3).toInt → m_w.1 b_w k_w = m0_w.1 b_w k_w) ∧ ∀ b_w k_w : Nat, b_w = 91 ∨ (115 ≤ b_w ∧ b_w ≤ 119) → m_w.1 b_w k_w = m0_w.1 b_w k_w
theorem KNw.ofw {m0_w m_w : dc_M} (h_w : kr m0_w m_w) : KNw m0_w m_w := ⟨fun k_w hk => h_w 82 k_w (by unfold krc; omega), fun b_w k_w hb_w _ => h_w b_w k_w (by unfold krc; omega), fun b_w k_w h1 h2 _ => h_w b_w k_w (by unfold krc; omega), fun b_w k_w hb_w => h_w b_w k_w (by unfold krc; omega)⟩
theorem KNw.rf {m_w : dc_M} : KNw m_w m_w := ⟨fun _ _ => rfl, fun _ _ _ _ => rfl, fun _ _ _ _ _ => rfl, fun _ _ _ => rfl⟩
theorem KNw.trw {m0_w m1_w m2_w : dc_M} (h_w : KNw m0_w m1_w) (g_w : KNw m1_w m2_w) : KNw m0_w m2_w := by
  obtain ⟨h1, h2, h3, h4⟩ := h_w
  obtain ⟨g1, g2, g3_w, g4⟩ := g_w
  have e0_w := h1 0 (by omega)
  have e3_w := h1 3 (by omega)
  exact ⟨fun k_w hk => (g1 k_w hk).trans (h1 k_w hk), fun b_w k_w hb_w hk => (g2 b_w k_w hb_w (by rw [e0_w]; exact hk)).trans (h2 b_w k_w hb_w hk), fun b_w k_w b1 b2 hk => (g3_w b_w k_w b1 b2 (by rw [e3_w]; exact hk)).trans (h3 b_w k_w b1 b2 hk), fun b_w k_w hb_w => (g4 b_w k_w hb_w).trans (h4 b_w k_w hb_w)⟩
theorem NR.knw {a_w : Nat} {c_w m_w m' : dc_M} (N_w : NR a_w c_w m_w) (h_w : KNw m_w m') : NR a_w c_w m' := by
  obtain ⟨⟨n0_w, n0b, n0l⟩, ⟨n1_w, n1b, n1l⟩, ⟨n2_w, n2b, n2f⟩, B⟩ := N_w
  obtain ⟨h1, h2, h3, -⟩ := h_w
  refine ⟨⟨by rw [h1 0 (by omega)]; exact n0_w, n0b, fun j_w hj => ?_⟩, ⟨by rw [h1 3 (by omega)]; exact n1_w, n1b, fun k_w hk => ?_⟩, ⟨by rw [h1 10 (by omega)]; exact n2_w, n2b, by rw [h1 11 (by omega)]; exact n2f⟩, B⟩
  · rw [h2 83 j_w (by omega) (by rw [← n0_w]; exact hj), h2 84 j_w (by omega) (by rw [← n0_w]; exact hj)]
    exact n0l j_w hj
  · have q_w : ∀ b_w, 85 ≤ b_w → b_w ≤ 90 → m'.1 b_w k_w = m_w.1 b_w k_w := fun b_w b1 b2 => h3 b_w k_w b1 b2 (by rw [← n1_w]; exact hk)
    rw [q_w 85 (by decide) (by decide), q_w 86 (by decide) (by decide), q_w 87 (by decide) (by decide), q_w 88 (by decide) (by decide), q_w 89 (by decide) (by decide), q_w 90 (by decide) (by decide)]
    exact n1l k_w hk
theorem RN.cpn {c_w m_w c' m' : dc_M} (R_w : RN c_w m_w) (C_w : CP (c_w.2.2.1 1 7) (c_w.2.2.1 1 8) c_w c') (K_w : KNw m_w m') : RN c' m' := by
  obtain ⟨h1, h2, h3, h4, h5, h6, h7⟩ := C_w
  have en : ∀ i_w, i_w ≤ 10 → c'.1 (c_w.2.2.1 1 7 + i_w) = c_w.1 (c_w.2.2.1 1 7 + i_w) := fun i_w hi_w => funext (fun k_w => h7 _ k_w (by omega))
  refine ⟨⟨tp.up R_w.1.1 (h7 2 1 (by omega)) (fun j_w => h7 3 j_w (by omega)) (K_w.1 13 (by omega)) (fun j_w => K_w.2.2.2 91 j_w (by omega)), by rw [h7 2 2 (by omega), K_w.1 14 (by omega)]; exact R_w.1.2.1, by rw [h2, h3]; exact R_w.1.2.2⟩, ?_, h6⟩
  rw [h2]
  exact (NR.eq R_w.2.1 en (fun _ _ => rfl) (fun _ _ _ => rfl)).knw K_w
theorem dr_v {x y_w : Int32} {m_w : dc_M} (b_w k_w : Nat) : (d_X10_dropCure 82 x y_w m_w).1 b_w k_w = if b_w = 82 ∧ k_w = 0 then m_w.1 82 0 - 1 else if b_w = 82 ∧ k_w = 10 then m_w.1 82 10 - 2 else if b_w = 82 ∧ k_w = 3 then m_w.1 82 3 - 2 else if b_w = 89 ∧ k_w = y_w.toNatClampNeg then (dc_wi m_w 89 x.toNatClampNeg (m_w.1 89 (m_w.1 82 3 - 2).toNatClampNeg)).1 89 (m_w.1 82 3 - 1).toNatClampNeg else if b_w = 89 ∧ k_w = x.toNatClampNeg then m_w.1 89 (m_w.1 82 3 - 2).toNatClampNeg else m_w.1 b_w k_w := rfl
theorem i_11 {x : Int32} : x + 1 + 1 - 2 = x := by
  rw [Int32.add_assoc, show (1 : Int32) + 1 = 2 from rfl, Int32.add_sub_cancel]
theorem i_12 {x : Int32} : x + 1 + 1 - 1 = x + 1 := Int32.add_sub_cancel _ _
theorem tc_kn {x y_w : Int32} {m_w : dc_M} {z_w : Int32 × dc_M} (w0_w : 0 ≤ (m_w.1 82 0).toInt) (w6_w : (m_w.1 82 0).toInt < 6) (e14_w : (m_w.1 82 3).toInt ≤ 14) (hx : 0 ≤ x.toInt ∧ x.toInt < (m_w.1 82 3).toInt) (hy : 0 ≤ y_w.toInt ∧ y_w.toInt < (m_w.1 82 3).toInt) (hxy : x.toInt ≠ y_w.toInt) (h_w : d_X10_tryCure 82 x y_w m_w = some z_w) : KNw m_w z_w.2 := by
  have nx := cl_n hx.1
  have ny := cl_n hy.1
  have nE := cl_n (x := m_w.1 82 3) (by omega)
  have nW := cl_n w0_w
  have eE : (m_w.1 82 3 + 1).toInt = (m_w.1 82 3).toInt + 1 := i1 (by omega) (Int32.le_toInt _)
  have nE1 := cl_n (x := m_w.1 82 3 + 1) (by omega)
  have cE1 : (m_w.1 82 3 + 1).toNatClampNeg = (m_w.1 82 3).toNatClampNeg + 1 := by omega
  unfold d_X10_tryCure at h_w
  cases hq : d_X10_addCure 82 x y_w m_w with
  | none => rw [hq] at h_w; cases h_w
  | some q1 =>
    rw [hq, Option.bind_some] at h_w
    obtain ⟨L_w, -, rfl⟩ := ac_run w0_w w6_w hq
    obtain ⟨v0_w, v3, v10, vk, v83, v84, v85, v86, v87, v88, v89, v90, vb⟩ := @ac_v x y_w L_w m_w (m_w.1 82 3).toNatClampNeg (m_w.1 82 0).toNatClampNeg rfl cE1 rfl (by omega) (by omega) (by omega)
    have fin_w : ∀ s : dc_M, kr (acM m_w x y_w L_w) s → KNw m_w (d_X10_dropCure 82 x y_w s) := fun s K_w => by
      have K3 : s.1 82 3 = m_w.1 82 3 + 1 + 1 := by rw [K_w 82 3 (by unfold krc; omega), v3]
      have K0 : s.1 82 0 = m_w.1 82 0 + 1 := by rw [K_w 82 0 (by unfold krc; omega), v0_w]
      have K10 : s.1 82 10 = m_w.1 82 10 + 1 + 1 := by rw [K_w 82 10 (by unfold krc; omega), v10]
      refine ⟨fun k_w hk => ?_, fun b_w k_w hb_w hk => ?_, fun b_w k_w b1 b2 hk => ?_, fun b_w k_w hb_w => ?_⟩
      · rw [dr_v]
        by_cases h0 : k_w = 0
        · rw [if_pos ⟨rfl, h0⟩, K0, h0]
          exact Int32.add_sub_cancel _ _
        · rw [if_neg (by omega)]
          by_cases h1 : k_w = 10
          · rw [if_pos ⟨rfl, h1⟩, K10, h1]
            exact i_11
          · rw [if_neg (by omega)]
            by_cases h2 : k_w = 3
            · rw [if_pos ⟨rfl, h2⟩, K3, h2]
              exact i_11
            · rw [if_neg (by omega), if_neg (by omega), if_neg (by omega), K_w 82 k_w (by unfold krc; omega), vk k_w h0 h2 h1]
      · rw [dr_v, if_neg (by omega), if_neg (by omega), if_neg (by omega), if_neg (by omega), if_neg (by omega), K_w b_w k_w (by unfold krc; omega)]
        rcases hb_w with rfl | rfl
        · rw [v83, if_neg (by omega)]
        · rw [v84, if_neg (by omega)]
      · rw [dr_v, if_neg (by omega), if_neg (by omega), if_neg (by omega), K3, i_11, i_12, cE1]
        by_cases g1 : b_w = 89 ∧ k_w = y_w.toNatClampNeg
        · obtain ⟨rfl, rfl⟩ := g1
          rw [if_pos ⟨rfl, rfl⟩, wi_k (by omega), K_w 89 _ (by unfold krc; omega), v89, if_neg (by omega), if_pos rfl]
        · rw [if_neg g1]
          by_cases g2 : b_w = 89 ∧ k_w = x.toNatClampNeg
          · obtain ⟨rfl, rfl⟩ := g2
            rw [if_pos ⟨rfl, rfl⟩, K_w 89 _ (by unfold krc; omega), v89, if_pos rfl]
          · rw [if_neg g2, K_w b_w k_w (by unfold krc; omega)]
            rcases (show b_w = 85 ∨ b_w = 86 ∨ b_w = 87 ∨ b_w = 88 ∨ b_w = 89 ∨ b_w = 90 by omega) with rfl | rfl | rfl | rfl | rfl | rfl
            · rw [v85, if_neg (by omega)]
            · rw [v86, if_neg (by omega), if_neg (by omega)]
            · rw [v87, if_neg (by omega)]
            · rw [v88, if_neg (by omega), if_neg (by omega)]
            · rw [v89, if_neg (by omega), if_neg (by omega), if_neg (by omega), if_neg (by omega)]
            · rw [v90, if_neg (by omega)]
      · rw [dr_v, if_neg (by omega), if_neg (by omega), if_neg (by omega), if_neg (by omega), if_neg (by omega), K_w b_w k_w (by unfold krc; omega), vb b_w k_w (by omega) (by omega)]
    cases hr : d_X10_layRight 82 (acM m_w x y_w L_w) with
    | none => rw [hr] at h_w; cases h_w
    | some q2 =>
      rw [hr, Option.bind_some] at h_w
      have k2 : kr (acM m_w x y_w L_w) q2.2 := kr_X10_layRight (fun _ _ _ => rfl) hr
      by_cases c1_w : q2.1.toInt = 0
      · rw [if_pos c1_w] at h_w
        cases h_w
        exact fin_w _ k2
      · rw [if_neg c1_w] at h_w
        cases hb_w : d_X10_layBacks 82 q2.2 with
        | none => rw [hb_w] at h_w; cases h_w
        | some q4 =>
          rw [hb_w, Option.bind_some] at h_w
          have k4_w := kr_X10_layBacks k2 hb_w
          cases hc_w : d_X10_layQuarrels 82 q4 with
          | none => rw [hc_w] at h_w; cases h_w
          | some q5 =>
            rw [hc_w, Option.bind_some] at h_w
            have k5_w := kr_X10_layQuarrels k4_w hc_w
            by_cases c2_w : (q5.1 82 43).toInt ≤ 0
            · rw [if_pos c2_w] at h_w
              cases h_w
              exact fin_w _ k5_w
            · rw [if_neg c2_w] at h_w
              cases h_w
              exact fin_w _ k5_w
/-- there is room for a_w cure -/
theorem fu_0 {m_w : dc_M} (w_w : 0 ≤ (m_w.1 82 0).toInt ∧ (m_w.1 82 0).toInt ≤ 6) (e_w : 0 ≤ (m_w.1 82 3).toInt ∧ (m_w.1 82 3).toInt ≤ 16) (p_w : 0 ≤ (m_w.1 82 10).toInt ∧ (m_w.1 82 10).toInt ≤ 20) : (d_X10_isFull 82 m_w).toInt = 0 ↔ ((m_w.1 82 0).toInt < 6 ∧ (m_w.1 82 3).toInt ≤ 14 ∧ (m_w.1 82 10).toInt ≤ 18) := by
  have e2_w : (m_w.1 82 3 + 2).toInt = (m_w.1 82 3).toInt + 2 := by rw [Int32.toInt_add, show (2 : Int32).toInt = 2 from rfl, sx_bm (by omega) (by omega)]
  have p2_w : (m_w.1 82 10 + 2).toInt = (m_w.1 82 10).toInt + 2 := by rw [Int32.toInt_add, show (2 : Int32).toInt = 2 from rfl, sx_bm (by omega) (by omega)]
  unfold d_X10_isFull
  by_cases h1 : (m_w.1 82 0).toInt = 6
  · rw [if_pos h1]
    exact ⟨fun q_w => absurd q_w (by decide), fun q_w => by omega⟩
  · rw [if_neg h1]
    by_cases h2 : 16 < (m_w.1 82 3 + 2).toInt
    · rw [if_pos h2]
      exact ⟨fun q_w => absurd q_w (by decide), fun q_w => by omega⟩
    · rw [if_neg h2]
      by_cases h3 : (m_w.1 82 10 + 2).toInt ≤ 20
      · rw [if_pos h3]
        exact ⟨fun _ => by omega, fun _ => rfl⟩
      · rw [if_neg h3]
        exact ⟨fun q_w => absurd q_w (by decide), fun q_w => by omega⟩
theorem ev_0 {x : Int32} {m_w : dc_M} (e_w : 0 ≤ (m_w.1 82 3).toInt ∧ (m_w.1 82 3).toInt ≤ 16) : (d_X10_isEvent 82 x m_w).toInt = 0 ↔ ¬ (0 ≤ x.toInt ∧ x.toInt < (m_w.1 82 3).toInt) := by
  have e1_w : (m_w.1 82 3 - 1).toInt = (m_w.1 82 3).toInt - 1 := by rw [Int32.toInt_sub, show (1 : Int32).toInt = 1 from rfl, sx_bm (by omega) (by omega)]
  unfold d_X10_isEvent
  rw [di_in, di_il, di_il, e1_w, show (0 : Int64).toInt = 0 from rfl, di_ine]
  exact ⟨fun q_w r_w => q_w (by omega), fun q_w r_w => q_w (by omega)⟩
def NB (m_w : dc_M) : Prop := (0 ≤ (m_w.1 82 0).toInt ∧ (m_w.1 82 0).toInt ≤ 6) ∧ (0 ≤ (m_w.1 82 3).toInt ∧ (m_w.1 82 3).toInt ≤ 16) ∧ (0 ≤ (m_w.1 82 10).toInt ∧ (m_w.1 82 10).toInt ≤ 20)
theorem NB.ofw {a_w : Nat} {c_w m_w : dc_M} (N_w : NR a_w c_w m_w) : NB m_w := ⟨by rw [← N_w.1.1]; exact N_w.1.2.1, by rw [← N_w.2.1.1]; exact N_w.2.1.2.1, by rw [← N_w.2.2.1.1]; exact N_w.2.2.1.2.1⟩
theorem NB.knw {m_w m' : dc_M} (B : NB m_w) (K_w : KNw m_w m') : NB m' := by
  unfold NB at B ⊢
  rw [K_w.1 0 (by omega), K_w.1 3 (by omega), K_w.1 10 (by omega)]
  exact B
theorem kn_would {x y_w : Int32} {m_w : dc_M} {z_w : Int32 × dc_M} (B : NB m_w) (h_w : d_X10_would 82 x y_w m_w = some z_w) : KNw m_w z_w.2 := by
  unfold d_X10_would at h_w
  by_cases c1_w : (d_X10_isEvent 82 x m_w).toInt = 0
  · rw [if_pos c1_w] at h_w; cases h_w; exact KNw.rf
  · rw [if_neg c1_w] at h_w
    by_cases c2_w : (d_X10_isEvent 82 y_w m_w).toInt = 0
    · rw [if_pos c2_w] at h_w; cases h_w; exact KNw.rf
    · rw [if_neg c2_w] at h_w
      by_cases c3_w : ¬ x.toInt = y_w.toInt
      · rw [if_pos c3_w] at h_w
        cases hr : d_X10_layRight 82 m_w with
        | none => rw [hr] at h_w; cases h_w
        | some q_w =>
          rw [hr, Option.bind_some] at h_w
          have k2 : KNw m_w q_w.2 := KNw.ofw (kr_X10_layRight (fun _ _ _ => rfl) hr)
          have B2 := B.knw k2
          by_cases c4_w : ¬ q_w.1.toInt = 0
          · rw [if_pos c4_w] at h_w
            by_cases c5_w : (d_X10_isFull 82 q_w.2).toInt = 0
            · rw [if_pos c5_w] at h_w
              obtain ⟨f1_w, f2_w, f3_w⟩ := (fu_0 B2.1 B2.2.1 B2.2.2).mp c5_w
              have hx := Classical.not_not.mp (fun q_w => c1_w ((ev_0 B.2.1).mpr q_w))
              have hy := Classical.not_not.mp (fun q_w => c2_w ((ev_0 B.2.1).mpr q_w))
              cases ht : d_X10_tryCure 82 x y_w q_w.2 with
              | none => rw [ht] at h_w; cases h_w
              | some t =>
                rw [ht] at h_w
                cases h_w
                exact k2.trw (tc_kn B2.1.1 f1_w f2_w (by rw [k2.1 3 (by omega)]; exact hx) (by rw [k2.1 3 (by omega)]; exact hy) c3_w ht)
            · rw [if_neg c5_w] at h_w; cases h_w; exact k2
          · rw [if_neg c4_w] at h_w; cases h_w; exact k2
      · rw [if_neg c3_w] at h_w; cases h_w; exact KNw.rf
theorem kn_cures_l52 {x1_w x4_w x2_w x3 x5_w : Int32} {m0_w m_w : dc_M} {u_w : (Int32 × Int32 × Int32 × dc_M) ⊕ (Int32 × dc_M)} (B : NB m0_w) (f1_w : (m0_w.1 82 0).toInt < 6) (f2_w : (m0_w.1 82 3).toInt ≤ 14) (h4 : 0 ≤ x4_w.toInt ∧ x4_w.toInt < (m0_w.1 82 3).toInt) (h5 : 0 ≤ x5_w.toInt) (K_w : KNw m0_w m_w) (h_w : d_X10_cures_l52 82 x1_w x4_w x2_w x3 x5_w m_w = some u_w) : ∃ a_w b_w d_w, u_w = .inl (a_w, b_w, x4_w + 1, d_w) ∧ KNw m0_w d_w := by
  unfold d_X10_cures_l52 at h_w
  refine dc_lp_inv (s := (x2_w, x3, x5_w, m_w)) (fun s : Int32 × Int32 × Int32 × dc_M => 0 ≤ s.2.2.1.toInt ∧ KNw m0_w s.2.2.2) (fun u_w : (Int32 × Int32 × Int32 × dc_M) ⊕ (Int32 × dc_M) => ∃ a_w b_w d_w, u_w = .inl (a_w, b_w, x4_w + 1, d_w) ∧ KNw m0_w d_w) (fun s s' hI hs => ?_) (fun s u_w hI hs => ?_) ⟨h5, K_w⟩ h_w
  · obtain ⟨j0, jK⟩ := hI
    have hs : d_X10_cures_l52b 82 x1_w x4_w s.1 s.2.1 s.2.2.1 s.2.2.2 = some (.inl s') := hs
    unfold d_X10_cures_l52b at hs
    by_cases c1_w : (s.2.2.2.1 82 3).toInt ≤ s.2.2.1.toInt
    · rw [if_pos c1_w] at hs; cases hs
    · rw [if_neg c1_w] at hs
      have e3_w : s.2.2.2.1 82 3 = m0_w.1 82 3 := jK.1 3 (by omega)
      rw [e3_w] at c1_w
      have e1_w : (s.2.2.1 + 1).toInt = s.2.2.1.toInt + 1 := i1 (by have := B.2.1.2; omega) (Int32.le_toInt _)
      by_cases c2_w : x4_w.toInt = s.2.2.1.toInt
      · rw [if_pos c2_w] at hs
        cases hs
        exact ⟨by show 0 ≤ (s.2.2.1 + 1).toInt; omega, jK⟩
      · rw [if_neg c2_w] at hs
        cases ht : d_X10_tryCure 82 x4_w s.2.2.1 s.2.2.2 with
        | none => rw [ht] at hs; cases hs
        | some t =>
          rw [ht, Option.bind_some] at hs
          have e0_w : s.2.2.2.1 82 0 = m0_w.1 82 0 := jK.1 0 (by omega)
          have kt : KNw m0_w t.2 := jK.trw (tc_kn (by rw [e0_w]; exact B.1.1) (by rw [e0_w]; exact f1_w) (by rw [e3_w]; exact f2_w) (by rw [e3_w]; exact h4) (by rw [e3_w]; omega) c2_w ht)
          by_cases c3_w : ¬ t.1.toInt = 0
          · rw [if_pos c3_w] at hs
            cases hs
            exact ⟨by show 0 ≤ (s.2.2.1 + 1).toInt; omega, kt⟩
          · rw [if_neg c3_w] at hs
            by_cases c4_w : ¬ s.2.1.toInt = 0
            · rw [if_pos c4_w] at hs
              cases hs
              exact ⟨by show 0 ≤ (s.2.2.1 + 1).toInt; omega, kt⟩
            · rw [if_neg c4_w] at hs
              cases hs
              exact ⟨by show 0 ≤ (s.2.2.1 + 1).toInt; omega, kt⟩
  · obtain ⟨j0, jK⟩ := hI
    have hs : d_X10_cures_l52b 82 x1_w x4_w s.1 s.2.1 s.2.2.1 s.2.2.2 = some (.inr u_w) := hs
    unfold d_X10_cures_l52b at hs
    by_cases c1_w : (s.2.2.2.1 82 3).toInt ≤ s.2.2.1.toInt
    · rw [if_pos c1_w] at hs
      cases hs
      exact ⟨_, _, _, rfl, jK⟩
    · rw [if_neg c1_w] at hs
      by_cases c2_w : x4_w.toInt = s.2.2.1.toInt
      · rw [if_pos c2_w] at hs; cases hs
      · rw [if_neg c2_w] at hs
        cases ht : d_X10_tryCure 82 x4_w s.2.2.1 s.2.2.2 with
        | none => rw [ht] at hs; cases hs
        | some t =>
          rw [ht, Option.bind_some] at hs
          split at hs
          · cases hs
          · split at hs <;> cases hs
theorem kn_cures_l40 {x1_w x2_w x3 x4_w : Int32} {m0_w m_w : dc_M} {z_w : Int32 × dc_M} (B : NB m0_w) (f1_w : (m0_w.1 82 0).toInt < 6) (f2_w : (m0_w.1 82 3).toInt ≤ 14) (h4 : 0 ≤ x4_w.toInt) (K_w : KNw m0_w m_w) (h_w : d_X10_cures_l40 82 x1_w x2_w x3 x4_w m_w = some z_w) : KNw m0_w z_w.2 := by
  unfold d_X10_cures_l40 at h_w
  refine dc_lp_inv (s := (x2_w, x3, x4_w, m_w)) (fun s : Int32 × Int32 × Int32 × dc_M => 0 ≤ s.2.2.1.toInt ∧ KNw m0_w s.2.2.2) (fun z_w : Int32 × dc_M => KNw m0_w z_w.2) (fun s s' hI hs => ?_) (fun s z_w hI hs => ?_) ⟨h4, K_w⟩ h_w
  · obtain ⟨j0, jK⟩ := hI
    have hs : d_X10_cures_l40b 82 x1_w s.1 s.2.1 s.2.2.1 s.2.2.2 = some (.inl s') := hs
    unfold d_X10_cures_l40b at hs
    have e3_w : s.2.2.2.1 82 3 = m0_w.1 82 3 := jK.1 3 (by omega)
    rw [e3_w] at hs
    by_cases c1_w : (m0_w.1 82 3).toInt ≤ s.2.2.1.toInt
    · rw [if_pos c1_w] at hs
      cases hb_w : d_X10_cures_b111 x1_w s.1 s.2.1 s.2.2.2 with
      | none => rw [hb_w] at hs; cases hs
      | some y_w => rw [hb_w] at hs; cases hs
    · rw [if_neg c1_w] at hs
      obtain ⟨a_w, b_w, d_w, hu, kd⟩ := kn_cures_l52 B f1_w f2_w ⟨j0, by omega⟩ (by decide) jK hs
      cases hu
      have e1_w : (s.2.2.1 + 1).toInt = s.2.2.1.toInt + 1 := i1 (by have := B.2.1.2; omega) (Int32.le_toInt _)
      exact ⟨by show 0 ≤ (s.2.2.1 + 1).toInt; omega, kd⟩
  · obtain ⟨j0, jK⟩ := hI
    have hs : d_X10_cures_l40b 82 x1_w s.1 s.2.1 s.2.2.1 s.2.2.2 = some (.inr z_w) := hs
    unfold d_X10_cures_l40b at hs
    have e3_w : s.2.2.2.1 82 3 = m0_w.1 82 3 := jK.1 3 (by omega)
    rw [e3_w] at hs
    by_cases c1_w : (m0_w.1 82 3).toInt ≤ s.2.2.1.toInt
    · rw [if_pos c1_w] at hs
      unfold d_X10_cures_b111 at hs
      split at hs
      · cases hs; exact jK
      · cases hs; exact jK
    · rw [if_neg c1_w] at hs
      obtain ⟨a_w, b_w, d_w, hu, kd⟩ := kn_cures_l52 B f1_w f2_w ⟨j0, by omega⟩ (by decide) jK hs
      cases hu
theorem kn_cures {x1_w : Int32} {m_w : dc_M} {z_w : Int32 × dc_M} (B : NB m_w) (h_w : d_X10_cures 82 x1_w m_w = some z_w) : KNw m_w z_w.2 := by
  unfold d_X10_cures at h_w
  split at h_w
  · cases hr : d_X10_layRight 82 m_w with
    | none => rw [hr] at h_w; cases h_w
    | some q_w =>
      rw [hr, Option.bind_some] at h_w
      have k2 : KNw m_w q_w.2 := KNw.ofw (kr_X10_layRight (fun _ _ _ => rfl) hr)
      have B2 := B.knw k2
      by_cases c4_w : ¬ q_w.1.toInt = 0
      · rw [if_pos c4_w] at h_w
        by_cases c5_w : (d_X10_isFull 82 q_w.2).toInt = 0
        · rw [if_pos c5_w] at h_w
          obtain ⟨f1_w, f2_w, f3_w⟩ := (fu_0 B2.1 B2.2.1 B2.2.2).mp c5_w
          exact k2.trw (kn_cures_l40 B2 f1_w f2_w (by decide) KNw.rf h_w)
        · rw [if_neg c5_w] at h_w; cases h_w; exact k2
      · rw [if_neg c4_w] at h_w; cases h_w; exact k2
  · cases h_w; exact KNw.rf
