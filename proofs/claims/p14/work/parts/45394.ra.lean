/-! ===== sheets on both sides ===== -/
theorem nrw8 (x : Int32) : x.toInt8.toInt32 = (x <<< ((24 : Int32) &&& 31)) >>> ((24 : Int32) &&& 31) := by
  apply Int32.toBitVec_inj.mp
  have e_w : ((24 : Int32) &&& 31).toBitVec.smod 32 = 24#32 := by decide
  rw [Int32.toBitVec_shiftRight, Int32.toBitVec_shiftLeft, e_w, Int8.toBitVec_toInt32, Int32.toBitVec_toInt8]
  show ((x.toBitVec.signExtend 8).signExtend 32) = (x.toBitVec <<< 24).sshiftRight 24
  apply BitVec.eq_of_getLsbD_eq
  intro k_w hk
  have a1_w : (x.toBitVec.signExtend 8).msb = x.toBitVec.getLsbD 7 := by
    rw [BitVec.msb_eq_getLsbD_last, BitVec.getLsbD_signExtend]; simp
  have a2 : (x.toBitVec <<< 24).msb = x.toBitVec.getLsbD 7 := by
    rw [BitVec.msb_eq_getLsbD_last, BitVec.getLsbD_shiftLeft]; simp
  rw [BitVec.getLsbD_signExtend, BitVec.getLsbD_signExtend, BitVec.getLsbD_sshiftRight, BitVec.getLsbD_shiftLeft, a1_w, a2]
  by_cases h8 : k_w < 8
  · simp [h8, hk, show 24 + k_w < 32 by omega, show ¬ 32 ≤ k_w by omega, show k_w < 32 by omega]
  · simp [h8, hk, show ¬ 24 + k_w < 32 by omega, show ¬ 32 ≤ k_w by omega]
theorem nrw16 (x : Int32) : x.toInt16.toInt32 = (x <<< ((16 : Int32) &&& 31)) >>> ((16 : Int32) &&& 31) := by
  apply Int32.toBitVec_inj.mp
  have e_w : ((16 : Int32) &&& 31).toBitVec.smod 32 = 16#32 := by decide
  rw [Int32.toBitVec_shiftRight, Int32.toBitVec_shiftLeft, e_w, Int16.toBitVec_toInt32, Int32.toBitVec_toInt16]
  show ((x.toBitVec.signExtend 16).signExtend 32) = (x.toBitVec <<< 16).sshiftRight 16
  apply BitVec.eq_of_getLsbD_eq
  intro k_w hk
  have a1_w : (x.toBitVec.signExtend 16).msb = x.toBitVec.getLsbD 15 := by
    rw [BitVec.msb_eq_getLsbD_last, BitVec.getLsbD_signExtend]; simp
  have a2 : (x.toBitVec <<< 16).msb = x.toBitVec.getLsbD 15 := by
    rw [BitVec.msb_eq_getLsbD_last, BitVec.getLsbD_shiftLeft]; simp
  rw [BitVec.getLsbD_signExtend, BitVec.getLsbD_signExtend, BitVec.getLsbD_sshiftRight, BitVec.getLsbD_shiftLeft, a1_w, a2]
  by_cases h8 : k_w < 16
  · simp [h8, hk, show 16 + k_w < 32 by omega, show ¬ 32 ≤ k_w by omega, show k_w < 32 by omega]
  · simp [h8, hk, show ¬ 16 + k_w < 32 by omega, show ¬ 32 ≤ k_w by omega]
theorem shk_is {x : Int32} {m_w : dc_M} : d_X9_isSheet x m_w = if 0 ≤ x.toInt ∧ x.toInt ≤ 3 then 1 else 0 := by
  unfold d_X9_isSheet
  by_cases h1 : x.toInt < 0
  · rw [if_pos h1, if_neg (by omega)]
  · rw [if_neg h1]
    by_cases h2 : 4 ≤ x.toInt
    · rw [if_pos h2, if_neg (by omega)]
    · rw [if_neg h2, if_pos (by omega)]
theorem shk_ln {x : Int32} {m_w : dc_M} : d_X9_isLane x m_w = if 0 ≤ x.toInt ∧ x.toInt ≤ 2 then 1 else 0 := by
  unfold d_X9_isLane
  by_cases h1 : x.toInt < 0
  · rw [if_pos h1, if_neg (by omega)]
  · rw [if_neg h1]
    by_cases h2 : 3 ≤ x.toInt
    · rw [if_pos h2, if_neg (by omega)]
    · rw [if_neg h2, if_pos (by omega)]
/-- where a cell of a sheet stands -/
theorem shk_ix {x y : Int32} (hx : 0 ≤ x.toInt ∧ x.toInt ≤ 3) (hy : 0 ≤ y.toInt ∧ y.toInt ≤ 63) : (((64 : Int32) * x) + y).toNatClampNeg = 64 * x.toNatClampNeg + y.toNatClampNeg := by
  have n1_w := cl_n hx.1
  have n2_w := cl_n hy.1
  have e1_w : ((64 : Int32) * x).toInt = 64 * x.toInt := by rw [Int32.toInt_mul, show (64 : Int32).toInt = 64 from rfl, sx_bm (by omega) (by omega)]
  have e2_w : (((64 : Int32) * x) + y).toInt = 64 * x.toInt + y.toInt := by rw [Int32.toInt_add, e1_w, sx_bm (by omega) (by omega)]
  have n3_w := cl_n (x := ((64 : Int32) * x) + y) (by omega)
  omega
theorem shk_l56 {x v_w : Int32} {m_w m' : dc_M} (hx : 0 ≤ x.toInt ∧ x.toInt ≤ 3) (h_w : d_X10_sheet_l56 82 x 0 m_w = some (v_w, m')) : v_w = 1 ∧ ∀ b_w k_w : Nat, m'.1 b_w k_w = if b_w = 119 ∧ 64 * x.toNatClampNeg ≤ k_w ∧ k_w < 64 * x.toNatClampNeg + 64 then 0 else m_w.1 b_w k_w := by
  have n1_w := cl_n hx.1
  unfold d_X10_sheet_l56 at h_w
  refine dc_lp_inv (s := ((0 : Int32), m_w)) (fun s : Int32 × dc_M => (0 ≤ s.1.toInt ∧ s.1.toInt ≤ 64) ∧ ∀ b_w k_w : Nat, s.2.1 b_w k_w = if b_w = 119 ∧ 64 * x.toNatClampNeg ≤ k_w ∧ (k_w : Int) < 64 * x.toInt + s.1.toInt then 0 else m_w.1 b_w k_w) (fun z_w : Int32 × dc_M => z_w.1 = 1 ∧ ∀ b_w k_w : Nat, z_w.2.1 b_w k_w = if b_w = 119 ∧ 64 * x.toNatClampNeg ≤ k_w ∧ k_w < 64 * x.toNatClampNeg + 64 then 0 else m_w.1 b_w k_w) (fun s s' hI hs => ?_) (fun s z_w hI hs => ?_) ⟨⟨show (0 : Int) ≤ (0 : Int32).toInt by decide, show (0 : Int32).toInt ≤ 64 by decide⟩, fun b_w k_w => ?_⟩ h_w
  · obtain ⟨⟨j0, j1⟩, j2_w⟩ := hI
    obtain ⟨p_w, s⟩ := s
    have j0 : 0 ≤ p_w.toInt := j0
    have j2_w : ∀ b_w k_w : Nat, s.1 b_w k_w = if b_w = 119 ∧ 64 * x.toNatClampNeg ≤ k_w ∧ (k_w : Int) < 64 * x.toInt + p_w.toInt then 0 else m_w.1 b_w k_w := j2_w
    have hs : d_X10_sheet_l56b 82 x p_w s = some (.inl s') := hs
    unfold d_X10_sheet_l56b at hs
    by_cases c1_w : 64 ≤ p_w.toInt
    · rw [if_pos c1_w] at hs; cases hs
    · rw [if_neg c1_w] at hs
      have n2_w := cl_n j0
      have e1_w : (p_w + 1).toInt = p_w.toInt + 1 := i1 (by omega) (Int32.le_toInt _)
      have ix := shk_ix hx (y := p_w) ⟨j0, by omega⟩
      have hs := Sum.inl.inj (Option.some.inj hs)
      rw [← hs]
      refine ⟨⟨by show 0 ≤ (p_w + 1).toInt; omega, by show (p_w + 1).toInt ≤ _; omega⟩, fun b_w k_w => ?_⟩
      show (dc_wi s 119 (((64 : Int32) * x) + p_w).toNatClampNeg 0).1 b_w k_w = if b_w = 119 ∧ 64 * x.toNatClampNeg ≤ k_w ∧ (k_w : Int) < 64 * x.toInt + (p_w + 1).toInt then 0 else m_w.1 b_w k_w
      rw [ix, e1_w]
      by_cases z_w : b_w = 119 ∧ k_w = 64 * x.toNatClampNeg + p_w.toNatClampNeg
      · obtain ⟨rfl, rfl⟩ := z_w
        rw [wi_s, if_pos ⟨rfl, by omega, by omega⟩]
      · rw [wi_k z_w, j2_w]
        by_cases y : b_w = 119 ∧ 64 * x.toNatClampNeg ≤ k_w ∧ (k_w : Int) < 64 * x.toInt + p_w.toInt
        · rw [if_pos y, if_pos ⟨y.1, y.2.1, by omega⟩]
        · rw [if_neg y, if_neg (by omega)]
  · obtain ⟨⟨j0, j1⟩, j2_w⟩ := hI
    obtain ⟨p_w, s⟩ := s
    have j1 : p_w.toInt ≤ 64 := j1
    have j2_w : ∀ b_w k_w : Nat, s.1 b_w k_w = if b_w = 119 ∧ 64 * x.toNatClampNeg ≤ k_w ∧ (k_w : Int) < 64 * x.toInt + p_w.toInt then 0 else m_w.1 b_w k_w := j2_w
    have hs : d_X10_sheet_l56b 82 x p_w s = some (.inr z_w) := hs
    unfold d_X10_sheet_l56b at hs
    by_cases c1_w : 64 ≤ p_w.toInt
    · rw [if_pos c1_w] at hs
      have hs := Sum.inr.inj (Option.some.inj hs)
      rw [← hs]
      refine ⟨rfl, fun b_w k_w => ?_⟩
      show s.1 b_w k_w = _
      rw [j2_w]
      by_cases y : b_w = 119 ∧ 64 * x.toNatClampNeg ≤ k_w ∧ (k_w : Int) < 64 * x.toInt + p_w.toInt
      · rw [if_pos y, if_pos ⟨y.1, y.2.1, by omega⟩]
      · rw [if_neg y, if_neg (by omega)]
    · rw [if_neg c1_w] at hs; cases hs
  · show m_w.1 b_w k_w = if b_w = 119 ∧ 64 * x.toNatClampNeg ≤ k_w ∧ (k_w : Int) < 64 * x.toInt + (0 : Int32).toInt then 0 else m_w.1 b_w k_w
    rw [if_neg (by rw [show (0 : Int32).toInt = 0 from rfl]; omega)]
theorem RAw.p26 {x1_w x2_w x3 : Int32} {c_w m_w c' m' : dc_M} {v_w v' : Int32} (h40 : ∀ j_w, j_w < 4 → c_w.2.2.1 40 j_w = 74 + 2 * j_w) (hl : ∀ j_w, j_w < 4 → (c_w.2.2.2 (75 + 2 * j_w)).2 = 64) (R_w : RAw c_w m_w) (f_w : d_X9_sheet 1 x1_w x2_w x3 c_w = some (v_w, c')) (g_w : d_X10_sheet 82 x1_w x2_w x3 m_w = some (v', m')) : v_w = v' ∧ RAw c' m' := by
  unfold d_X9_sheet at f_w
  unfold d_X10_sheet at g_w
  rw [shk_is, shk_ln] at f_w
  rw [di_in, di_in, di_il, di_il, show (0 : Int64).toInt = 0 from rfl, show (3 : Int64).toInt = 3 from rfl, show (2 : Int64).toInt = 2 from rfl] at g_w
  by_cases c1_w : 0 ≤ x1_w.toInt ∧ x1_w.toInt ≤ 3
  · have n1_w := cl_n c1_w.1
    rw [if_neg (fun q_w => (di_ine.mp q_w) c1_w)] at f_w g_w
    by_cases c2_w : 0 ≤ x2_w.toInt ∧ x2_w.toInt ≤ 2
    · rw [if_neg (fun q_w => (di_ine.mp q_w) c2_w)] at f_w g_w
      by_cases c3_w : x3.toInt ≤ 64
      · rw [if_pos c3_w] at f_w g_w
        by_cases c4_w : 0 ≤ x3.toInt
        · rw [if_pos c4_w] at f_w g_w
          have hj : x1_w.toNatClampNeg < 4 := by omega
          rw [show 1 + 39 = 40 from rfl, h40 _ hj] at f_w
          unfold d_X6_renew at f_w
          rw [show 74 + 2 * x1_w.toNatClampNeg + 1 = 75 + 2 * x1_w.toNatClampNeg by omega] at f_w
          cases hf : d_J7_fill_53178 (75 + 2 * x1_w.toNatClampNeg) 0 (dc_wi (dc_wi c_w (74 + 2 * x1_w.toNatClampNeg) 2 x2_w) (74 + 2 * x1_w.toNatClampNeg) 0 x3) with
          | none => rw [hf] at f_w; cases f_w
          | some e_w =>
            rw [hf] at f_w
            have f_w := Prod.mk.inj (Option.some.inj f_w)
            obtain ⟨r1_w, r2, r3⟩ := fi_run (n := 64) (show ((dc_wi (dc_wi c_w (74 + 2 * x1_w.toNatClampNeg) 2 x2_w) (74 + 2 * x1_w.toNatClampNeg) 0 x3).2.2.2 (75 + 2 * x1_w.toNatClampNeg)).2 = 64 from hl _ hj) (by decide) hf
            obtain ⟨l1, l2⟩ := shk_l56 c1_w g_w
            have E_w : ∀ b_w k_w, b_w ≠ 75 + 2 * x1_w.toNatClampNeg → ¬ (b_w = 74 + 2 * x1_w.toNatClampNeg ∧ (k_w = 0 ∨ k_w = 2)) → e_w.1 b_w k_w = c_w.1 b_w k_w := fun b_w k_w h1 h2 => by rw [r2 b_w h1, wi_k (by omega), wi_k (by omega)]
            have E0_w : e_w.1 (74 + 2 * x1_w.toNatClampNeg) 0 = x3 := by rw [r2 _ (by omega)]; exact wi_s
            have E2 : e_w.1 (74 + 2 * x1_w.toNatClampNeg) 2 = x2_w := by rw [r2 _ (by omega), wi_k (by omega)]; exact wi_s
            have M_w : ∀ b_w k_w, b_w ≠ 119 → ¬ (b_w = 117 ∧ k_w = x1_w.toNatClampNeg) → ¬ (b_w = 118 ∧ k_w = x1_w.toNatClampNeg) → m'.1 b_w k_w = m_w.1 b_w k_w := fun b_w k_w h1 h2 h3 => by
              rw [l2, if_neg (by omega)]
              show (dc_wi (dc_wi m_w 117 x1_w.toNatClampNeg x2_w) 118 x1_w.toNatClampNeg x3).1 b_w k_w = _
              rw [wi_k h3, wi_k h2]
            have M7_w : m'.1 117 x1_w.toNatClampNeg = x2_w := by
              rw [l2, if_neg (by omega)]
              show (dc_wi (dc_wi m_w 117 x1_w.toNatClampNeg x2_w) 118 x1_w.toNatClampNeg x3).1 117 _ = _
              rw [wi_k (by omega)]
              exact wi_s
            have M8_w : m'.1 118 x1_w.toNatClampNeg = x3 := by
              rw [l2, if_neg (by omega)]
              exact wi_s
            have M9_w : ∀ k_w, ¬ (64 * x1_w.toNatClampNeg ≤ k_w ∧ k_w < 64 * x1_w.toNatClampNeg + 64) → m'.1 119 k_w = m_w.1 119 k_w := fun k_w h1 => by
              rw [l2, if_neg (by omega)]
              show (dc_wi (dc_wi m_w 117 x1_w.toNatClampNeg x2_w) 118 x1_w.toNatClampNeg x3).1 119 k_w = _
              rw [wi_k (by omega), wi_k (by omega)]
            have ez : e_w.2 = c_w.2 := r1_w
            rw [← f_w.1, ← f_w.2]
            have N_w : RN e_w m' := R_w.1.ot (fun b_w k_w h1 h2 => E_w b_w k_w (by omega) (by omega)) ez (fun b_w k_w h1 h2 => M_w b_w k_w (by omega) (by omega) (by omega))
            refine ⟨l1.symm, N_w, R_w.2.1.eqw (funext (fun k_w => E_w 37 k_w (by omega) (by omega))) (funext (fun k_w => E_w 38 k_w (by omega) (by omega))) (funext (fun k_w => E_w 39 k_w (by omega) (by omega))) (M_w 82 64 (by omega) (by omega) (by omega)) (M_w 82 11 (by omega) (by omega) (by omega)) (funext (fun k_w => M_w 115 k_w (by omega) (by omega) (by omega))) (funext (fun k_w => M_w 116 k_w (by omega) (by omega) (by omega))), fun j_w hj4 => ?_⟩
            by_cases hz : j_w = x1_w.toNatClampNeg
            · rw [hz]
              refine Or.inr ⟨by rw [E0_w, M8_w], by rw [M8_w]; exact ⟨c4_w, c3_w⟩, by rw [E2, M7_w], by rw [M7_w]; exact c2_w, fun y hy => ?_⟩
              rw [M8_w] at hy
              rw [r3 y (by omega), l2, if_pos ⟨rfl, by omega, by omega⟩]
            · have s := R_w.2.2 j_w hj4
              unfold RS1 at s ⊢
              rw [E_w _ 0 (by omega) (by omega), E_w _ 2 (by omega) (by omega), M_w 117 j_w (by omega) (by omega) (by omega), M_w 118 j_w (by omega) (by omega) (by omega)]
              rcases s with s | ⟨s1_w, s2_w, s3_w, s4_w, s5⟩
              · exact Or.inl s
              · refine Or.inr ⟨s1_w, s2_w, s3_w, s4_w, fun y hy => ?_⟩
                rw [E_w _ y (by omega) (by omega), M9_w _ (by omega)]
                exact s5 y hy
        · rw [if_neg c4_w] at f_w g_w
          cases f_w
          cases g_w
          exact ⟨rfl, R_w⟩
      · rw [if_neg c3_w] at f_w g_w
        cases f_w
        cases g_w
        exact ⟨rfl, R_w⟩
    · rw [if_pos (di_ine.mpr c2_w)] at f_w g_w
      cases f_w
      cases g_w
      exact ⟨rfl, R_w⟩
  · rw [if_pos (di_ine.mpr c1_w)] at f_w g_w
    cases f_w
    cases g_w
    exact ⟨rfl, R_w⟩
/-- what a cell becomes -/
def narw (l x : Int32) : Int32 := if ¬ l.toInt = 0 then (if ¬ l.toInt = 1 then x else x.toInt16.toInt32) else x.toInt8.toInt32
theorem putw {s : Nat} {i_w x : Int32} {c_w : dc_M} : d_X6_put s i_w x c_w = dc_wi c_w (s + 1) i_w.toNatClampNeg (narw (c_w.1 s 2) x) := by
  unfold d_X6_put narw
  split
  · split <;> rfl
  · rfl
theorem RAw.p27 {x1_w x2_w x3 : Int32} {c_w m_w c' m' : dc_M} {v_w v' : Int32} (h40 : ∀ j_w, j_w < 4 → c_w.2.2.1 40 j_w = 74 + 2 * j_w) (R_w : RAw c_w m_w) (f_w : d_X9_lay 1 x1_w x2_w x3 c_w = (v_w, c')) (g_w : d_X10_lay 82 x1_w x2_w x3 m_w = (v', m')) : v_w = v' ∧ RAw c' m' := by
  unfold d_X9_lay at f_w
  unfold d_X10_lay at g_w
  rw [shk_is] at f_w
  rw [di_in, di_il, show (0 : Int64).toInt = 0 from rfl, show (3 : Int64).toInt = 3 from rfl] at g_w
  by_cases c1_w : 0 ≤ x1_w.toInt ∧ x1_w.toInt ≤ 3
  · have n1_w := cl_n c1_w.1
    have hj : x1_w.toNatClampNeg < 4 := by omega
    rw [if_pos (fun q_w => (di_ine.mp q_w) c1_w)] at f_w g_w
    rw [show 1 + 39 = 40 from rfl, h40 _ hj] at f_w
    rw [show 82 + 35 = 117 from rfl, show 82 + 36 = 118 from rfl, show 82 + 37 = 119 from rfl] at g_w
    unfold d_X6_isNothing d_X6_hasCells at f_w
    rcases R_w.2.2 x1_w.toNatClampNeg hj with ⟨s1_w, s2_w⟩ | ⟨s1_w, s2_w, s3_w, s4_w, s5⟩
    · rw [if_neg (show ¬ 0 ≤ (c_w.1 (74 + 2 * x1_w.toNatClampNeg) 0).toInt by omega), if_neg (show ¬ ((1 : Int32).toInt = 0) by decide)] at f_w
      rw [if_neg (show ¬ ¬ (m_w.1 117 x1_w.toNatClampNeg).toInt = -4 by rw [s2_w]; exact fun q_w => q_w rfl)] at g_w
      cases f_w
      cases g_w
      exact ⟨rfl, R_w⟩
    · rw [s1_w] at f_w
      rw [if_pos (show 0 ≤ (m_w.1 118 x1_w.toNatClampNeg).toInt from s2_w.1), if_pos (show (0 : Int32).toInt = 0 from rfl)] at f_w
      rw [if_pos (show ¬ (m_w.1 117 x1_w.toNatClampNeg).toInt = -4 by omega)] at g_w
      have e1_w : (m_w.1 118 x1_w.toNatClampNeg - 1).toInt = (m_w.1 118 x1_w.toNatClampNeg).toInt - 1 := by rw [Int32.toInt_sub, show (1 : Int32).toInt = 1 from rfl, sx_bm (by omega) (by omega)]
      rw [di_in, di_il, di_il, e1_w, show (0 : Int64).toInt = 0 from rfl] at g_w
      rw [e1_w] at f_w
      by_cases c2_w : 0 ≤ x2_w.toInt ∧ x2_w.toInt ≤ (m_w.1 118 x1_w.toNatClampNeg).toInt - 1
      · have n2_w := cl_n c2_w.1
        have ix := shk_ix c1_w (y := x2_w) ⟨c2_w.1, by omega⟩
        rw [if_neg (show ¬ x2_w.toInt < 0 by omega), if_neg (show ¬ (m_w.1 118 x1_w.toNatClampNeg).toInt - 1 < x2_w.toInt by omega), if_pos (show ¬ ((1 : Int32).toInt = 0) by decide), dc_let_eq, putw, s3_w, show 74 + 2 * x1_w.toNatClampNeg + 1 = 75 + 2 * x1_w.toNatClampNeg by omega] at f_w
        rw [if_pos (fun q_w => (di_ine.mp q_w) c2_w), ix, ← nrw8, ← nrw16] at g_w
        have g_w : ((1 : Int32), dc_wi m_w 119 (64 * x1_w.toNatClampNeg + x2_w.toNatClampNeg) (narw (m_w.1 117 x1_w.toNatClampNeg) x3)) = (v', m') := by
          rw [← g_w]
          unfold narw
          split
          · split <;> rfl
          · rfl
        have f_w := Prod.mk.inj f_w
        have g_w := Prod.mk.inj g_w
        generalize narw (m_w.1 117 x1_w.toNatClampNeg) x3 = nv at f_w g_w
        have E_w : ∀ b_w k_w, ¬ (b_w = 75 + 2 * x1_w.toNatClampNeg ∧ k_w = x2_w.toNatClampNeg) → c'.1 b_w k_w = c_w.1 b_w k_w := fun b_w k_w h_w => by rw [← f_w.2]; exact wi_k h_w
        have E1_w : c'.1 (75 + 2 * x1_w.toNatClampNeg) x2_w.toNatClampNeg = nv := by rw [← f_w.2]; exact wi_s
        have M_w : ∀ b_w k_w, ¬ (b_w = 119 ∧ k_w = 64 * x1_w.toNatClampNeg + x2_w.toNatClampNeg) → m'.1 b_w k_w = m_w.1 b_w k_w := fun b_w k_w h_w => by rw [← g_w.2]; exact wi_k h_w
        have M1_w : m'.1 119 (64 * x1_w.toNatClampNeg + x2_w.toNatClampNeg) = nv := by rw [← g_w.2]; exact wi_s
        have N_w : RN c' m' := R_w.1.ot (fun b_w k_w h1 h2 => E_w b_w k_w (by omega)) (by rw [← f_w.2]; rfl) (fun b_w k_w h1 h2 => M_w b_w k_w (by omega))
        refine ⟨f_w.1.symm.trans g_w.1, N_w, R_w.2.1.eqw (funext (fun k_w => E_w 37 k_w (by omega))) (funext (fun k_w => E_w 38 k_w (by omega))) (funext (fun k_w => E_w 39 k_w (by omega))) (M_w 82 64 (by omega)) (M_w 82 11 (by omega)) (funext (fun k_w => M_w 115 k_w (by omega))) (funext (fun k_w => M_w 116 k_w (by omega))), fun j_w hj4 => ?_⟩
        have s := R_w.2.2 j_w hj4
        unfold RS1 at s ⊢
        rw [E_w _ 0 (by omega), E_w _ 2 (by omega), M_w 117 j_w (by omega), M_w 118 j_w (by omega)]
        rcases s with s | ⟨t1_w, t2_w, t3_w, t4_w, t5_w⟩
        · exact Or.inl s
        · refine Or.inr ⟨t1_w, t2_w, t3_w, t4_w, fun y hy => ?_⟩
          by_cases hz : j_w = x1_w.toNatClampNeg ∧ y = x2_w.toNatClampNeg
          · obtain ⟨rfl, rfl⟩ := hz
            rw [E1_w, M1_w]
          · rw [E_w _ y (by omega), M_w _ _ (by omega)]
            exact t5_w y hy
      · have f_w : ((-12 : Int32), c_w) = (v_w, c') := by
          by_cases h1 : x2_w.toInt < 0
          · rw [if_pos h1, if_neg (fun q_w => q_w rfl)] at f_w
            exact f_w
          · rw [if_neg h1, if_pos (show (m_w.1 118 x1_w.toNatClampNeg).toInt - 1 < x2_w.toInt by omega), if_neg (fun q_w => q_w rfl)] at f_w
            exact f_w
        rw [if_neg (fun q_w => q_w (di_ine.mpr c2_w))] at g_w
        cases f_w
        cases g_w
        exact ⟨rfl, R_w⟩
  · rw [if_neg (fun q_w => q_w (di_ine.mpr c1_w))] at f_w g_w
    cases f_w
    cases g_w
    exact ⟨rfl, R_w⟩
