/-! ===== the other calls that explore; a_w cure; a_w delay ===== -/
theorem RN.q10w {x1_w : Int32} {c_w m_w c' m' : dc_M} {v_w v' : Int32} (len_w : (c_w.2.2.2 10).2 = 512) (R_w : RN c_w m_w) (f_w : d_X9_quarrels 1 x1_w c_w = some (v_w, c')) (g_w : d_X10_quarrels 82 x1_w m_w = some (v', m')) : RN c' m' := R_w.cpk (cp_X9_quarrels (CP.of R_w len_w) f_w) (kr_X10_quarrels kr_of g_w)
theorem RN.q11w {x1_w : Int32} {c_w m_w c' m' : dc_M} {v_w v' : Int32} (len_w : (c_w.2.2.2 10).2 = 512) (R_w : RN c_w m_w) (f_w : d_X9_back 1 x1_w c_w = some (v_w, c')) (g_w : d_X10_back 82 x1_w m_w = some (v', m')) : RN c' m' := R_w.cpk (cp_X9_back (CP.of R_w len_w) f_w) (kr_X10_back kr_of g_w)
theorem RN.q12w {x1_w : Int32} {c_w m_w c' m' : dc_M} {v_w v' : Int32} (len_w : (c_w.2.2.2 10).2 = 512) (R_w : RN c_w m_w) (f_w : d_X9_stuck 1 x1_w c_w = some (v_w, c')) (g_w : d_X10_stuck 82 x1_w m_w = some (v', m')) : RN c' m' := R_w.cpk (cp_X9_stuck (CP.of R_w len_w) f_w) (kr_X10_stuck kr_of g_w)
theorem RN.q13w {x1_w x2_w : Int32} {c_w m_w c' m' : dc_M} {v_w v' : Int32} (len_w : (c_w.2.2.2 10).2 = 512) (R_w : RN c_w m_w) (f_w : d_X9_aim 1 x1_w x2_w c_w = some (v_w, c')) (g_w : d_X10_aim 82 x1_w x2_w m_w = some (v', m')) : RN c' m' := R_w.cpk (cp_X9_aim (CP.of R_w len_w) f_w) (kr_X10_aim kr_of g_w)
theorem RN.q14w {x1_w x2_w : Int32} {c_w m_w c' m' : dc_M} {v_w v' : Int32} (len_w : (c_w.2.2.2 10).2 = 512) (R_w : RN c_w m_w) (f_w : d_X9_makes 1 x1_w x2_w c_w = some (v_w, c')) (g_w : d_X10_makes 82 x1_w x2_w m_w = some (v', m')) : RN c' m' := R_w.cpk (cp_X9_makes (CP.of R_w len_w) f_w) (kr_X10_makes kr_of g_w)
theorem RN.q15w {x1_w x2_w x3 x4_w x5_w : Int32} {c_w m_w c' m' : dc_M} {v_w v' : Int32} (len_w : (c_w.2.2.2 10).2 = 512) (R_w : RN c_w m_w) (f_w : d_X9_judge 1 x1_w x2_w x3 x4_w x5_w c_w = some (v_w, c')) (g_w : d_X10_judge 82 x1_w x2_w x3 x4_w x5_w m_w = some (v', m')) : RN c' m' := R_w.cpk (cp_X9_judge (CP.of R_w len_w) f_w) (kr_X10_judge kr_of g_w)
theorem RN.q16w {c_w m_w c' m' : dc_M} {v_w v' : Int32} (len_w : (c_w.2.2.2 10).2 = 512) (R_w : RN c_w m_w) (f_w : d_X9_cost 1 c_w = some (v_w, c')) (g_w : d_X10_cost 82 m_w = some (v', m')) : RN c' m' := R_w.cpk (cp_X9_cost (CP.of R_w len_w) f_w) (kr_X10_cost kr_of g_w)
theorem RN.q17w {x1_w x2_w : Int32} {c_w m_w c' m' : dc_M} {v_w v' : Int32} (len_w : (c_w.2.2.2 10).2 = 512) (R_w : RN c_w m_w) (f_w : d_X9_would 1 x1_w x2_w c_w = some (v_w, c')) (g_w : d_X10_would 82 x1_w x2_w m_w = some (v', m')) : RN c' m' := R_w.cpn (cp_X9_would (CP.of R_w len_w) f_w) (kn_would (NB.ofw R_w.2.1) g_w)
theorem RN.q19 {x1_w : Int32} {c_w m_w c' m' : dc_M} {v_w v' : Int32} (len_w : (c_w.2.2.2 10).2 = 512) (R_w : RN c_w m_w) (f_w : d_X9_cures 1 x1_w c_w = some (v_w, c')) (g_w : d_X10_cures 82 x1_w m_w = some (v', m')) : RN c' m' := R_w.cpn (cp_X9_cures (CP.of R_w len_w) f_w) (kn_cures (NB.ofw R_w.2.1) g_w)
theorem hv_0 {a_w : Nat} {x_w : Int32} {c_w : dc_M} : (d_X3_hasEvent a_w x_w c_w).toInt = 0 ↔ ¬ (0 ≤ x_w.toInt ∧ x_w.toInt < (c_w.1 a_w 1).toInt) := by
  unfold d_X3_hasEvent
  by_cases h1 : x_w.toInt < 0
  · rw [if_pos h1]
    exact ⟨fun _ => by omega, fun _ => rfl⟩
  · rw [if_neg h1]
    by_cases h2 : (c_w.1 a_w 1).toInt ≤ x_w.toInt
    · rw [if_pos h2]
      exact ⟨fun _ => by omega, fun _ => rfl⟩
    · rw [if_neg h2]
      exact ⟨fun q_w => absurd q_w (by decide), fun q_w => absurd ⟨by omega, by omega⟩ q_w⟩
theorem rm_0 {a_w : Nat} {c_w : dc_M} (e_w : 0 ≤ (c_w.1 a_w 1).toInt ∧ (c_w.1 a_w 1).toInt ≤ 16) (p_w : 0 ≤ (c_w.1 a_w 2).toInt ∧ (c_w.1 a_w 2).toInt ≤ 20) : (d_X3_hasRoomForCure a_w c_w).toInt = 0 ↔ ¬ ((c_w.1 a_w 0).toInt < 6 ∧ (c_w.1 a_w 1).toInt ≤ 14 ∧ (c_w.1 a_w 2).toInt ≤ 18) := by
  have e2_w : (c_w.1 a_w 1 + 2).toInt = (c_w.1 a_w 1).toInt + 2 := by rw [Int32.toInt_add, show (2 : Int32).toInt = 2 from rfl, sx_bm (by omega) (by omega)]
  have p2_w : (c_w.1 a_w 2 + 2).toInt = (c_w.1 a_w 2).toInt + 2 := by rw [Int32.toInt_add, show (2 : Int32).toInt = 2 from rfl, sx_bm (by omega) (by omega)]
  unfold d_X3_hasRoomForCure
  by_cases h1 : 6 ≤ (c_w.1 a_w 0).toInt
  · rw [if_pos h1]
    exact ⟨fun _ => by omega, fun _ => rfl⟩
  · rw [if_neg h1]
    by_cases h2 : 16 < (c_w.1 a_w 1 + 2).toInt
    · rw [if_pos h2]
      exact ⟨fun _ => by omega, fun _ => rfl⟩
    · rw [if_neg h2]
      by_cases h3 : 20 < (c_w.1 a_w 2 + 2).toInt
      · rw [if_pos h3]
        exact ⟨fun _ => by omega, fun _ => rfl⟩
      · rw [if_neg h3]
        exact ⟨fun q_w => absurd q_w (by decide), fun q_w => absurd ⟨by omega, by omega, by omega⟩ q_w⟩
/-- the class right, the reference right -/
theorem RN.rgt {c_w m_w : dc_M} {q1_w : Int32 × dc_M} {y_w : Int32 × dc_M} (len_w : (c_w.2.2.2 10).2 = 512) (hr : ∀ k_w, k_w < 16 → 0 ≤ (m_w.1 86 k_w).toInt ∧ (m_w.1 86 k_w).toInt ≤ 1) (R_w : RN c_w m_w) (f_w : d_X9_isRight 1 c_w = some q1_w) (g_w : d_X10_layRight 82 m_w = some y_w) : q1_w.1 = y_w.1 ∧ RN q1_w.2 y_w.2 ∧ q1_w.2.2.2.1 1 7 = c_w.2.2.1 1 7 ∧ SP 4 (c_w.2.2.1 1 7) q1_w.2 y_w.2 ∧ q1_w.2.1 1 11 ≠ 0 ∧ CP (c_w.2.2.1 1 7) (c_w.2.2.1 1 8) c_w q1_w.2 ∧ kr m_w y_w.2 := by
  have ha_w := md41 R_w.1.2.2
  unfold d_X9_isRight at f_w
  rw [show 1 + 3 = 4 from rfl] at f_w
  cases hq : d_X9_explore 1 c_w with
  | none => rw [hq] at f_w; cases f_w
  | some q_w =>
    rw [hq, Option.bind_some] at f_w
    cases f_w
    obtain ⟨k1_w, k2_w, k3_w, k4_w⟩ := ck_ex ha_w rfl len_w R_w.2.2 hq
    have a7 : q_w.2.2.1 1 7 = c_w.2.2.1 1 7 := by rw [k4_w]
    have N_w : NR (c_w.2.2.1 1 7) q_w m_w := NR.eq R_w.2.1 (fun i_w hi_w => funext (fun k_w => k3_w _ k_w (by omega) (by omega))) (fun _ _ => rfl) (fun _ _ _ => rfl)
    obtain ⟨S_w, e_w, -⟩ := ck_sp ha_w a7 k1_w k2_w N_w hr g_w
    refine ⟨?_, R_w.cpk (cp_ex (CP.of R_w len_w) hq) (kr_X10_layRight kr_of g_w), a7, S_w, k2_w, cp_ex (CP.of R_w len_w) hq, kr_X10_layRight kr_of g_w⟩
    show q_w.1 4 3 = y_w.1
    rw [e_w]
    rcases S_w with ⟨-, -, n_w, -, -, -, -, s3_w, -⟩ | ⟨w_w, -, -, -, -, s3_w, s4_w⟩
    · exact s3_w
    · rw [s3_w, s4_w]
/-- what a_w cure leaves alone, and what it begins anew -/
def DCw (a_w : Nat) (c_w m_w c' m' : dc_M) : Prop := (∀ b_w k_w, b_w ≠ 37 → ¬ (b_w = 1 ∧ 11 ≤ k_w ∧ k_w ≤ 16) → ¬ (a_w ≤ b_w ∧ b_w ≤ a_w + 10) → c'.1 b_w k_w = c_w.1 b_w k_w) ∧ c'.1 37 0 = 0 ∧ m'.1 82 64 = 0 ∧ m'.1 82 11 = m_w.1 82 11 ∧ m'.1 115 0 = m'.1 82 11 ∧ ∀ b_w k_w, 116 ≤ b_w → m'.1 b_w k_w = m_w.1 b_w k_w
/-- a_w cure that is done, on both sides -/
theorem RN.cu {x_w y_w : Int32} {c_w m_w w_w u_w : dc_M} (R_w : RN c_w m_w) (hw : (c_w.1 (c_w.2.2.1 1 7) 0).toInt < 6) (he : (c_w.1 (c_w.2.2.1 1 7) 1).toInt ≤ 14) (hp : (c_w.1 (c_w.2.2.1 1 7) 2).toInt ≤ 18) (hx : 0 ≤ x_w.toInt ∧ x_w.toInt < (c_w.1 (c_w.2.2.1 1 7) 1).toInt) (hy : 0 ≤ y_w.toInt ∧ y_w.toInt < (c_w.1 (c_w.2.2.1 1 7) 1).toInt) (hxy : x_w.toInt ≠ y_w.toInt) (f_w : d_X3_addWireBehind (c_w.2.2.1 1 7) x_w y_w c_w = some w_w) (g_w : d_X10_addCure 82 x_w y_w m_w = some u_w) : RN (d_X9_beginAnew 1 w_w) (d_X10_begin 82 u_w) ∧ (d_X9_beginAnew 1 w_w).1 ((d_X9_beginAnew 1 w_w).2.2.1 1 7) 0 = (d_X10_begin 82 u_w).1 82 0 ∧ DCw (c_w.2.2.1 1 7) c_w m_w (d_X9_beginAnew 1 w_w) (d_X10_begin 82 u_w) := by
  have ha_w := md41 R_w.1.2.2
  obtain ⟨N_w, z2, o, ob_w, ok_w, -⟩ := cu_sim ha_w R_w.2.1 hw he hp hx hy hxy f_w g_w
  have B7 : (d_X9_beginAnew 1 w_w).2 = c_w.2 := z2
  have Be : ∀ b_w k_w, b_w ≠ 37 → ¬ (b_w = 1 ∧ 11 ≤ k_w ∧ k_w ≤ 16) → (d_X9_beginAnew 1 w_w).1 b_w k_w = w_w.1 b_w k_w := fun b_w k_w h1 h2 => by
    unfold d_X9_beginAnew
    rw [wi_k (by omega), wi_k (by omega), wi_k (by omega), wi_k (by omega), wi_k (by omega), wi_k (by omega), wi_k (by omega)]
  have B11 : (d_X9_beginAnew 1 w_w).1 1 11 = 0 := rfl
  have B37 : (d_X9_beginAnew 1 w_w).1 37 0 = 0 := rfl
  have M64 : (d_X10_begin 82 u_w).1 82 64 = 0 := rfl
  have M115 : (d_X10_begin 82 u_w).1 115 0 = (d_X10_begin 82 u_w).1 82 11 := rfl
  have Bm : ∀ b_w k_w, ¬ (b_w = 82 ∧ k_w = 64) → b_w ≠ 115 → (d_X10_begin 82 u_w).1 b_w k_w = u_w.1 b_w k_w := fun b_w k_w h1 h2 => by
    unfold d_X10_begin
    rw [wi_k (by omega), wi_k (by omega)]
  generalize d_X9_beginAnew 1 w_w = c' at *
  generalize d_X10_begin 82 u_w = m' at *
  have e7_w : c'.2.2.1 1 7 = c_w.2.2.1 1 7 := by rw [B7]
  have e8 : c'.2.2.1 1 8 = c_w.2.2.1 1 8 := by rw [B7]
  have N' : NR (c_w.2.2.1 1 7) c' m' := NR.eq N_w (fun i_w hi_w => funext (fun k_w => Be _ k_w (by omega) (by omega))) (fun k_w hk => Bm 82 k_w (by omega) (by omega)) (fun b_w h1 h2 => funext (fun k_w => Bm b_w k_w (by omega) (by omega)))
  refine ⟨⟨⟨tp.up R_w.1.1 ?_ (fun j_w => ?_) ?_ (fun j_w => ?_), ?_, by rw [e7_w, e8]; exact R_w.1.2.2⟩, by rw [e7_w]; exact N', fun q_w => (q_w B11).elim⟩, by rw [e7_w]; exact N'.1.1, fun b_w k_w h1 h2 h3 => by rw [Be b_w k_w h1 h2, o b_w k_w h3], B37, M64, by rw [Bm 82 11 (by omega) (by omega), ok_w 11 (by omega) (by omega) (by omega)], M115, fun b_w k_w h1 => by rw [Bm b_w k_w (by omega) (by omega), ob_w b_w k_w (by omega) (by omega)]⟩
  · rw [Be 2 1 (by omega) (by omega), o 2 1 (by omega)]
  · rw [Be 3 j_w (by omega) (by omega), o 3 j_w (by omega)]
  · rw [Bm 82 13 (by omega) (by omega), ok_w 13 (by omega) (by omega) (by omega)]
  · rw [Bm 91 j_w (by omega) (by omega), ob_w 91 j_w (by omega) (by omega)]
  · rw [Be 2 2 (by omega) (by omega), o 2 2 (by omega), Bm 82 14 (by omega) (by omega), ok_w 14 (by omega) (by omega) (by omega)]
    exact R_w.1.2.1
theorem RN.p18 {x1_w x2_w : Int32} {c_w m_w c' m' : dc_M} {v_w v' : Int32} (len_w : (c_w.2.2.2 10).2 = 512) (hr : ∀ k_w, k_w < 16 → 0 ≤ (m_w.1 86 k_w).toInt ∧ (m_w.1 86 k_w).toInt ≤ 1) (R_w : RN c_w m_w) (f_w : d_X9_cure 1 x1_w x2_w c_w = some (v_w, c')) (g_w : d_X10_cure 82 x1_w x2_w m_w = some (v', m')) : v_w = v' ∧ RN c' m' ∧ ((CP (c_w.2.2.1 1 7) (c_w.2.2.1 1 8) c_w c' ∧ kr m_w m') ∨ ∃ q_w y_w, CP (c_w.2.2.1 1 7) (c_w.2.2.1 1 8) c_w q_w ∧ kr m_w y_w ∧ DCw (c_w.2.2.1 1 7) q_w y_w c' m') := by
  have B_w := NB.ofw R_w.2.1
  have n1_w : c_w.1 (c_w.2.2.1 1 7) 1 = m_w.1 82 3 := R_w.2.1.2.1.1
  unfold d_X9_cure d_X9_refusedCure at f_w
  unfold d_X10_cure at g_w
  by_cases c1_w : 0 ≤ x1_w.toInt ∧ x1_w.toInt < (m_w.1 82 3).toInt
  · rw [if_neg (fun q_w => (hv_0.mp q_w) (by rw [n1_w]; exact c1_w))] at f_w
    rw [if_neg (fun q_w => ((ev_0 B_w.2.1).mp q_w) c1_w)] at g_w
    by_cases c2_w : 0 ≤ x2_w.toInt ∧ x2_w.toInt < (m_w.1 82 3).toInt
    · rw [if_neg (fun q_w => (hv_0.mp q_w) (by rw [n1_w]; exact c2_w))] at f_w
      rw [if_neg (fun q_w => ((ev_0 B_w.2.1).mp q_w) c2_w)] at g_w
      by_cases c3_w : ¬ x1_w.toInt = x2_w.toInt
      · rw [if_pos c3_w] at f_w g_w
        cases hq : d_X9_isRight 1 c_w with
        | none => rw [hq] at f_w; cases f_w
        | some q_w =>
          rw [hq, Option.bind_some] at f_w
          cases hy : d_X10_layRight 82 m_w with
          | none => rw [hy] at g_w; cases g_w
          | some y_w =>
            rw [hy, Option.bind_some] at g_w
            obtain ⟨e_w, R2, e7_w, -, -, C2_w, K2⟩ := RN.rgt len_w hr R_w hq hy
            rw [e_w] at f_w
            by_cases c4_w : ¬ y_w.1.toInt = 0
            · rw [if_pos c4_w] at f_w g_w
              have B2 := NB.ofw R2.2.1
              have m0_w : q_w.2.1 (q_w.2.2.2.1 1 7) 0 = y_w.2.1 82 0 := R2.2.1.1.1
              have m1_w : q_w.2.1 (q_w.2.2.2.1 1 7) 1 = y_w.2.1 82 3 := R2.2.1.2.1.1
              have m2_w : q_w.2.1 (q_w.2.2.2.1 1 7) 2 = y_w.2.1 82 10 := R2.2.1.2.2.1.1
              have y3 : y_w.2.1 82 3 = m_w.1 82 3 := kr_X10_layRight kr_of hy 82 3 (by unfold krc; omega)
              by_cases c5_w : (y_w.2.1 82 0).toInt < 6 ∧ (y_w.2.1 82 3).toInt ≤ 14 ∧ (y_w.2.1 82 10).toInt ≤ 18
              · rw [if_neg (fun z_w => ((rm_0 (by rw [m1_w]; exact B2.2.1) (by rw [m2_w]; exact B2.2.2)).mp z_w) (by rw [m0_w, m1_w, m2_w]; exact c5_w))] at f_w
                rw [if_pos ((fu_0 B2.1 B2.2.1 B2.2.2).mpr c5_w)] at g_w
                rw [Option.bind_some, if_pos (show ((0 : Int32), q_w.2).1.toInt = 0 from rfl)] at f_w
                cases hw : d_X3_addWireBehind (q_w.2.2.2.1 1 7) x1_w x2_w q_w.2 with
                | none =>
                  have hw' : d_X3_addWireBehind (((0 : Int32), q_w.2).2.2.2.1 1 7) x1_w x2_w ((0 : Int32), q_w.2).2 = none := hw
                  rw [hw'] at f_w; cases f_w
                | some w_w =>
                  have hw' : d_X3_addWireBehind (((0 : Int32), q_w.2).2.2.2.1 1 7) x1_w x2_w ((0 : Int32), q_w.2).2 = some w_w := hw
                  rw [hw', Option.bind_some, dc_let_eq] at f_w
                  cases hu : d_X10_addCure 82 x1_w x2_w y_w.2 with
                  | none => rw [hu] at g_w; cases g_w
                  | some u_w =>
                    rw [hu, Option.bind_some, dc_let_eq] at g_w
                    obtain ⟨R3, e3_w, D3⟩ := RN.cu R2 (by rw [m0_w]; exact c5_w.1) (by rw [m1_w]; exact c5_w.2.1) (by rw [m2_w]; exact c5_w.2.2) (by rw [m1_w, y3]; exact c1_w) (by rw [m1_w, y3]; exact c2_w) c3_w hw hu
                    cases f_w
                    cases g_w
                    exact ⟨by rw [e3_w], R3, Or.inr ⟨q_w.2, y_w.2, C2_w, K2, by rw [e7_w] at D3; exact D3⟩⟩
              · rw [if_pos ((rm_0 (by rw [m1_w]; exact B2.2.1) (by rw [m2_w]; exact B2.2.2)).mpr (by rw [m0_w, m1_w, m2_w]; exact c5_w))] at f_w
                rw [if_neg (fun z_w => c5_w ((fu_0 B2.1 B2.2.1 B2.2.2).mp z_w))] at g_w
                cases f_w
                cases g_w
                exact ⟨rfl, R2, Or.inl ⟨C2_w, K2⟩⟩
            · rw [if_neg c4_w] at f_w g_w
              cases f_w
              cases g_w
              exact ⟨rfl, R2, Or.inl ⟨C2_w, K2⟩⟩
      · rw [if_neg c3_w] at f_w g_w
        cases f_w
        cases g_w
        exact ⟨rfl, R_w, Or.inl ⟨CP.of R_w len_w, kr_of⟩⟩
    · rw [if_pos (hv_0.mpr (by rw [n1_w]; exact c2_w))] at f_w
      rw [if_pos ((ev_0 B_w.2.1).mpr c2_w)] at g_w
      cases f_w
      cases g_w
      exact ⟨rfl, R_w, Or.inl ⟨CP.of R_w len_w, kr_of⟩⟩
  · rw [if_pos (hv_0.mpr (by rw [n1_w]; exact c1_w))] at f_w
    rw [if_pos ((ev_0 B_w.2.1).mpr c1_w)] at g_w
    cases f_w
    cases g_w
    exact ⟨rfl, R_w, Or.inl ⟨CP.of R_w len_w, kr_of⟩⟩
theorem RN.p20 {x1_w x2_w : Int32} {c_w m_w c' m' : dc_M} {v_w v' : Int32} (R_w : RN c_w m_w) (f_w : d_X9_delay 1 x1_w x2_w c_w = (v_w, c')) (g_w : d_X10_delay 82 x1_w x2_w m_w = (v', m')) : v_w = v' ∧ RN c' m' := by
  have B_w := NB.ofw R_w.2.1
  have ha_w := md41 R_w.1.2.2
  have n1_w : c_w.1 (c_w.2.2.1 1 7) 1 = m_w.1 82 3 := R_w.2.1.2.1.1
  unfold d_X9_delay at f_w
  unfold d_X10_delay at g_w
  rw [di_in, di_il, show (1 : Int64).toInt = 1 from rfl, show (20 : Int64).toInt = 20 from rfl] at g_w
  by_cases c1_w : 0 ≤ x1_w.toInt ∧ x1_w.toInt < (m_w.1 82 3).toInt
  · rw [if_neg (fun q_w => (hv_0.mp q_w) (by rw [n1_w]; exact c1_w))] at f_w
    rw [if_neg (fun q_w => ((ev_0 B_w.2.1).mp q_w) c1_w)] at g_w
    by_cases c2_w : 1 ≤ x2_w.toInt ∧ x2_w.toInt ≤ 20
    · rw [if_neg (show ¬ x2_w.toInt < 1 by omega), if_pos c2_w.2] at f_w
      rw [if_pos (fun q_w => (di_ine.mp q_w) c2_w)] at g_w
      have nx := cl_n c1_w.1
      have f_w := Prod.mk.inj f_w
      have g_w := Prod.mk.inj g_w
      have vv : c_w.1 (c_w.2.2.1 1 7 + 8) x1_w.toNatClampNeg = m_w.1 90 x1_w.toNatClampNeg := (R_w.2.1.2.1.2.2 x1_w.toNatClampNeg (by rw [n1_w]; omega)).2.2.2.2.2.1
      refine ⟨f_w.1.symm.trans (vv.trans g_w.1), ?_⟩
      rw [← f_w.2, ← g_w.2]
      have Bc : ∀ b_w k_w, ¬ (b_w = 1 ∧ k_w = 14) → ¬ (b_w = c_w.2.2.1 1 7 + 8 ∧ k_w = x1_w.toNatClampNeg) → (dc_wi (dc_wi c_w (c_w.2.2.1 1 7 + 8) x1_w.toNatClampNeg x2_w) 1 14 0).1 b_w k_w = c_w.1 b_w k_w := fun b_w k_w h1 h2 => by rw [wi_k h1, wi_k h2]
      have Bv : (dc_wi (dc_wi c_w (c_w.2.2.1 1 7 + 8) x1_w.toNatClampNeg x2_w) 1 14 0).1 (c_w.2.2.1 1 7 + 8) x1_w.toNatClampNeg = x2_w := by
        rw [wi_k (by omega)]
        exact wi_s
      have Bz : (dc_wi (dc_wi c_w (c_w.2.2.1 1 7 + 8) x1_w.toNatClampNeg x2_w) 1 14 0).2 = c_w.2 := rfl
      have Bm : ∀ b_w k_w, ¬ (b_w = 90 ∧ k_w = x1_w.toNatClampNeg) → (dc_wi m_w (82 + 8) x1_w.toNatClampNeg x2_w).1 b_w k_w = m_w.1 b_w k_w := fun b_w k_w h_w => wi_k h_w
      have Bw : (dc_wi m_w (82 + 8) x1_w.toNatClampNeg x2_w).1 90 x1_w.toNatClampNeg = x2_w := wi_s
      show RN (dc_wi (dc_wi c_w (c_w.2.2.1 1 7 + 8) x1_w.toNatClampNeg x2_w) 1 14 0) (dc_wi m_w (82 + 8) x1_w.toNatClampNeg x2_w)
      generalize dc_wi (dc_wi c_w (c_w.2.2.1 1 7 + 8) x1_w.toNatClampNeg x2_w) 1 14 0 = C at *
      generalize dc_wi m_w (82 + 8) x1_w.toNatClampNeg x2_w = M at *
      have e7_w : C.2.2.1 1 7 = c_w.2.2.1 1 7 := by rw [Bz]
      have e8 : C.2.2.1 1 8 = c_w.2.2.1 1 8 := by rw [Bz]
      have ei : ∀ i_w, i_w ≤ 10 → i_w ≠ 8 → C.1 (c_w.2.2.1 1 7 + i_w) = c_w.1 (c_w.2.2.1 1 7 + i_w) := fun i_w hi_w h8 => funext (fun k_w => Bc _ k_w (by omega) (by omega))
      refine ⟨⟨tp.up R_w.1.1 (Bc 2 1 (by omega) (by omega)) (fun j_w => Bc 3 j_w (by omega) (by omega)) (Bm 82 13 (by omega)) (fun j_w => Bm 91 j_w (by omega)), by rw [Bc 2 2 (by omega) (by omega), Bm 82 14 (by omega)]; exact R_w.1.2.1, by rw [e7_w, e8]; exact R_w.1.2.2⟩, ?_, CK.eq8 R_w.2.2 (Bc 1 11 (by omega) (by omega)) e7_w ei (fun b_w k_w h1 h2 _ => Bc b_w k_w (by omega) (by omega))⟩
      rw [e7_w]
      obtain ⟨⟨w0_w, w1_w, w2_w⟩, ⟨d0_w, d1_w, d2_w⟩, ⟨p0_w, p1_w, p2_w⟩, b_w, b13, bkd⟩ := R_w.2.1
      have E0_w : C.1 (c_w.2.2.1 1 7) = c_w.1 (c_w.2.2.1 1 7) := ei 0 (by decide) (by decide)
      refine ⟨⟨by rw [E0_w, Bm 82 0 (by omega)]; exact w0_w, by rw [E0_w]; exact w1_w, fun j_w hj => ?_⟩, ⟨by rw [E0_w, Bm 82 3 (by omega)]; exact d0_w, by rw [E0_w]; exact d1_w, fun k_w hk => ?_⟩, ⟨by rw [E0_w, Bm 82 10 (by omega)]; exact p0_w, by rw [E0_w]; exact p1_w, by rw [E0_w, Bm 82 11 (by omega)]; exact p2_w⟩, ?_, by rw [E0_w]; exact b13, fun j_w hj => (by rw [E0_w] at hj; rw [ei 2 (by decide) (by decide)]; exact bkd j_w hj)⟩
      · rw [E0_w] at hj
        rw [ei 1 (by decide) (by decide), ei 2 (by decide) (by decide), Bm 83 j_w (by omega), Bm 84 j_w (by omega)]
        exact w2_w j_w hj
      · rw [E0_w] at hk
        rw [E0_w, ei 3 (by decide) (by decide), ei 4 (by decide) (by decide), ei 5 (by decide) (by decide), ei 6 (by decide) (by decide), ei 7 (by decide) (by decide), Bm 85 k_w (by omega), Bm 86 k_w (by omega), Bm 87 k_w (by omega), Bm 88 k_w (by omega), Bm 89 k_w (by omega)]
        obtain ⟨q3_w, q4_w, q5_w, q6_w, q7_w, q8_w, q9_w, q10_w⟩ := d2_w k_w hk
        refine ⟨q3_w, q4_w, q5_w, q6_w, q7_w, ?_, q9_w, q10_w⟩
        by_cases hx : k_w = x1_w.toNatClampNeg
        · rw [hx, Bv, Bw]
        · rw [Bc _ _ (by omega) (by omega), Bm _ _ (by omega)]
          exact q8_w
      · have en : ∀ i_w, i_w ≠ 8 → i_w ≤ 10 → cn (c_w.2.2.1 1 7) C i_w = cn (c_w.2.2.1 1 7) c_w i_w := fun i_w h8 hi_w => ei i_w hi_w h8
        unfold XB at b_w ⊢
        rw [en 0 (by decide) (by decide), en 6 (by decide) (by decide), en 7 (by decide) (by decide), en 9 (by decide) (by decide), en 10 (by decide) (by decide)]
        exact b_w
    · have f_w : ((-1 : Int32), c_w) = (v_w, c') := by
        by_cases h1 : x2_w.toInt < 1
        · rw [if_pos h1] at f_w; exact f_w
        · rw [if_neg h1, if_neg (by omega)] at f_w; exact f_w
      rw [if_neg (fun q_w => q_w (di_ine.mpr c2_w))] at g_w
      cases f_w
      cases g_w
      exact ⟨rfl, R_w⟩
  · rw [if_pos (hv_0.mpr (by rw [n1_w]; exact c1_w))] at f_w
    rw [if_pos ((ev_0 B_w.2.1).mpr c1_w)] at g_w
    cases f_w
    cases g_w
    exact ⟨rfl, R_w⟩
