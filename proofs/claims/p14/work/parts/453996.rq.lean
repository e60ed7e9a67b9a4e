/-! ===== the run, the sheets, the net and what the class remembers ===== -/
def RQw (c m_w : dc_M) : Prop := RAw c m_w ∧ MQm c ∧ MSm c
/-- memory that the memos speak of is left alone -/
def KMw (c c' : dc_M) : Prop := (∀ b k_w, ¬ (b = 2 ∨ b = 3 ∨ (37 ≤ b ∧ b ≤ 39) ∨ (74 ≤ b ∧ b ≤ 81)) → c'.1 b k_w = c.1 b k_w) ∧ c'.2 = c.2
theorem KMw.rfw {c : dc_M} : KMw c c := ⟨fun _ _ _ => rfl, rfl⟩
theorem KMw.wiw {c m_w : dc_M} {x_w k_w : Nat} {v_w : Int32} (h_w : KMw c m_w) (hx : (37 ≤ x_w ∧ x_w ≤ 39) ∨ (74 ≤ x_w ∧ x_w ≤ 81)) : KMw c (dc_wi m_w x_w k_w v_w) := ⟨fun b j_w hb_w => (wi_k (by omega)).trans (h_w.1 b j_w hb_w), h_w.2⟩
theorem RQw.kmw {c m_w c' m' : dc_M} (R : RQw c m_w) (A_w : RAw c' m') (K_w : KMw c c') : RQw c' m' := by
  have ha_w := md41 R.1.1.1.2.2
  have e7_w : c'.2.2.1 1 7 = c.2.2.1 1 7 := by rw [K_w.2]
  exact ⟨A_w, R.2.1.eqw (K_w.1 1 11 (by decide)) (K_w.1 1 12 (by decide)) e7_w (fun i_w hi_w h8 => funext (fun k_w => K_w.1 _ k_w (by omega))) (fun b k_w h1 h2 _ => K_w.1 b k_w (by omega)) (fun k_w _ => K_w.1 12 k_w (by decide)), R.2.2.eqw (K_w.1 1 11 (by decide)) (K_w.1 1 13 (by decide)) e7_w (K_w.1 _ 0 (by omega)) (fun b k_w h1 h2 _ => K_w.1 b k_w (by omega)) (fun k_w => by rw [K_w.2]; exact ⟨rfl, rfl⟩) (K_w.1 15 6 (by decide)) (K_w.1 15 7 (by decide))⟩
theorem RQw.sm (c m_w m' : dc_M) (v_w : vs 82 120 m_w m') (R : RQw c m_w) : RQw c m' := ⟨RAw.sm c m_w m' v_w R.1, R.2⟩
theorem RQw.sc (c c' m_w : dc_M) (v_w : vs 1 82 c c') (R : RQw c m_w) : RQw c' m_w := by
  have ha_w := md41 R.1.1.1.2.2
  have w_w : ∀ b, 1 ≤ b → b < 82 → c'.1 b = c.1 b := fun b h1 h2 => (v_w b h1 h2).1
  have e7_w : c'.2.2.1 1 7 = c.2.2.1 1 7 := by rw [(v_w 1 (by decide) (by decide)).2.2.1]
  exact ⟨RAw.sc c c' m_w v_w R.1, R.2.1.eqw (by rw [w_w 1 (by decide) (by decide)]) (by rw [w_w 1 (by decide) (by decide)]) e7_w (fun i_w hi_w h8 => w_w _ (by omega) (by omega)) (fun b k_w h1 h2 _ => by rw [w_w b (by omega) (by omega)]) (fun k_w _ => by rw [w_w 12 (by decide) (by decide)]), R.2.2.eqw (by rw [w_w 1 (by decide) (by decide)]) (by rw [w_w 1 (by decide) (by decide)]) e7_w (by rw [w_w _ (by omega) (by omega)]) (fun b k_w h1 h2 _ => by rw [w_w b (by omega) (by omega)]) (fun k_w => by rw [(v_w 16 (by decide) (by decide)).2.1, (v_w 17 (by decide) (by decide)).2.1]; exact ⟨rfl, rfl⟩) (by rw [w_w 15 (by decide) (by decide)]) (by rw [w_w 15 (by decide) (by decide)])⟩
theorem RQw.md (c m_w : dc_M) (R : RQw c m_w) : cs_md (c.2.2.1 1 7) (c.2.2.1 1 8) := RAw.md c m_w R.1
def RQ_D : List Nat := [139, 140, 141]
def RQ_c (x_w : Nat) : Bool := decide (x_w / 128 < 12) || (decide (12 < x_w / 128) && decide (x_w / 128 < 15)) || decide (17 < x_w / 128)
section RQw
variable {z_w L_w : Nat} {xs : Nat → Int32} {h_w h' : ab_H}
theorem rq_cell {mo : List Nat} (hC : mo.all RQ_c = true) (hfr : sx_fr mo h_w h') (hh : sx_h sx_SP z_w L_w xs h_w) (hh' : sx_h sx_SP z_w L_w xs h') {b : Nat} (hb_w : b = 12 ∨ (15 ≤ b ∧ b ≤ 17)) : h'.2.2 b = h_w.2.2 b := fr_cell hfr hh hh' (b := b) (by omega) (by omega) (List.all_eq_true.mpr (fun x_w hx => by
    have q_w := List.all_eq_true.mp hC x_w hx
    unfold RQ_c at q_w
    simp only [Bool.or_eq_true, Bool.and_eq_true, decide_eq_true_eq] at q_w
    rw [decide_eq_false (by omega)]
    rfl))
theorem RQw.fr {mo : List Nat} (hD : ((((Rt_D.all (fun k_w => !mo.contains k_w) && RN_D.all (fun k_w => !mo.contains k_w)) && mo.all RN_c) && (RA_D.all (fun k_w => !mo.contains k_w) && mo.all RA_c)) && (RQ_D.all (fun k_w => !mo.contains k_w) && mo.all RQ_c)) = true) (hh : sx_h sx_SP z_w L_w xs h_w) (hh' : sx_h sx_SP z_w L_w xs h') (hfr : sx_fr mo h_w h') (R : GR RQw h_w) : GR RQw h' := by
  rw [Bool.and_eq_true] at hD
  obtain ⟨hA, hB_w⟩ := hD
  rw [Bool.and_eq_true] at hB_w
  obtain ⟨hB_w, hC⟩ := hB_w
  have t_w := RAw.fr hA hh hh' hfr ⟨R.1.1, R.2⟩
  rw [Bool.and_eq_true, Bool.and_eq_true, Bool.and_eq_true] at hA
  obtain ⟨⟨⟨hA1, -⟩, hA3⟩, -⟩ := hA
  obtain ⟨e7_w, -⟩ := gm_same hfr hh hh' (D_c hA1 (by decide)) (D_c hA1 (by decide))
  have ha_w := md41 R.1.1.1.1.2.2
  have f11_w : (dc_vw h').1 1 11 = (dc_vw h_w).1 1 11 := gd_fi (c := 1) hfr hh hh' rfl (D_c hB_w (by decide)) (by decide)
  have f12_w : (dc_vw h').1 1 12 = (dc_vw h_w).1 1 12 := gd_fi (c := 1) hfr hh hh' rfl (D_c hB_w (by decide)) (by decide)
  have f13 : (dc_vw h').1 1 13 = (dc_vw h_w).1 1 13 := gd_fi (c := 1) hfr hh hh' rfl (D_c hB_w (by decide)) (by decide)
  have rc : ∀ b, (4 ≤ b ∧ b ≤ 10) ∨ (41 ≤ b ∧ b ≤ 62) → (dc_vw h').1 b = (dc_vw h_w).1 b := fun b hb_w => rn_cell hA3 hfr hh hh' (by omega)
  have qc : ∀ b k_w, b = 12 ∨ (15 ≤ b ∧ b ≤ 17) → (dc_vw h').1 b k_w = (dc_vw h_w).1 b k_w ∧ (dc_vw h').2.1 b k_w = (dc_vw h_w).2.1 b k_w := fun b k_w hb_w => by
    have e_w := rq_cell hC hfr hh hh' hb_w
    refine ⟨?_, ?_⟩
    · show dc_vi (h'.2.2 b) k_w = dc_vi (h_w.2.2 b) k_w
      rw [e_w]
    · show dc_vl (h'.2.2 b) k_w = dc_vl (h_w.2.2 b) k_w
      rw [e_w]
  exact ⟨⟨t_w.1, R.1.2.1.eqw f11_w f12_w e7_w (fun i_w hi_w h8 => rc _ (by omega)) (fun b k_w h1 h2 _ => by rw [rc b (by omega)]) (fun k_w _ => (qc 12 k_w (by omega)).1), R.1.2.2.eqw f11_w f13 e7_w (by rw [rc _ (by omega)]) (fun b k_w h1 h2 _ => by rw [rc b (by omega)]) (fun k_w => ⟨(qc 16 k_w (by omega)).2, (qc 17 k_w (by omega)).2⟩) (qc 15 6 (by omega)).1 (qc 15 7 (by omega)).1⟩, t_w.2⟩
theorem vt_13 (hh : sx_h sx_SP z_w L_w xs h_w) : ((dc_vw h_w).2.2.2 13).2 = 64 := by
  obtain ⟨f_w, r_w, -⟩ := nw_a (a := 13) rfl (by decide) (by decide) hh
  have r_w := (ab_rd_of r_w).2
  show (dc_vt (h_w.2.2 13)).2 = 64
  rw [r_w]
  rfl
end RQw
theorem CQm.rqw {c m_w : dc_M} (R : RQw c m_w) (len_w : (c.2.2.2 10).2 = 512) (l13 : (c.2.2.2 13).2 = 64) : CQm (c.2.2.1 1 7) (c.2.2.1 1 8) c c := ⟨CP.of R.1.1 len_w, l13, R.2.1, R.2.2⟩
theorem RQw.cqw {a b : Nat} {c c' m' : dc_M} (A_w : RAw c' m') (Q_w : CQm a b c c') : RQw c' m' := ⟨A_w, Q_w.2.2.1, Q_w.2.2.2⟩
theorem RQw.p0w {V : Int64} {c m_w c' m' : dc_M} {v_w v' : Int32} (ty_w : (c.2.2.2 3).1 = 1) (R : RQw c m_w) (f_w : d_X9_feed 1 V c = some (v_w, c')) (g_w : d_X10_feed 82 V m_w = some (v', m')) : v_w = v' ∧ RQw c' m' := by
  obtain ⟨-, -, r1_w, r2, -⟩ := fe_sim R.1.1.1.1 ty_w f_w g_w
  obtain ⟨e_w, A_w⟩ := RAw.p0w ty_w R.1 f_w g_w
  exact ⟨e_w, R.kmw A_w ⟨fun b k_w hb_w => r2 b k_w (by omega) (by omega), r1_w⟩⟩
theorem RQw.p1w {x_w : Int32} {c m_w c' m' : dc_M} {v_w v' : Int32} (R : RQw c m_w) (f_w : d_X9_end 1 x_w c = (v_w, c')) (g_w : d_X10_end 82 x_w m_w = (v', m')) : v_w = v' ∧ RQw c' m' := by
  obtain ⟨-, -, r1_w, r2, -⟩ := en_sim R.1.1.1.1 f_w g_w
  obtain ⟨e_w, A_w⟩ := RAw.p1w R.1 f_w g_w
  exact ⟨e_w, R.kmw A_w ⟨fun b k_w hb_w => r2 b k_w (by omega), r1_w⟩⟩
theorem RQw.p2w {c m_w c' m' : dc_M} {v_w v' : Int32} (R : RQw c m_w) (f_w : d_X9_text 1 c = some (v_w, c')) (g_w : d_X10_text 82 m_w = some (v', m')) : v_w = v' ∧ RQw c' m' := by
  obtain ⟨e_w, A_w⟩ := RAw.p2w R.1 f_w g_w
  refine ⟨e_w, ?_⟩
  have md := R.1.1.1.2.2
  unfold cs_md at md
  have h41 : c.2.2.1 1 8 = 41 ∨ c.2.2.1 1 8 = 52 := by omega
  unfold d_X9_text at f_w
  rw [show 1 + 1 = 2 from rfl] at f_w
  cases hz : d_X4_readInto 2 (c.2.2.1 1 8) c with
  | none => rw [hz] at f_w; cases f_w
  | some z_w =>
    rw [hz, Option.bind_some] at f_w
    have rr := rr_into hz
    have q7_w : z_w.2.2.2.1 1 7 = c.2.2.1 1 7 := by rw [rr]; rfl
    have ql : z_w.2.2.1 = c.2.1 := by rw [rr]; rfl
    have fi := fa_into hz
    by_cases z1 : ¬ z_w.1.toInt = 0
    · rw [if_pos z1, dc_let_eq] at f_w
      generalize hQ : d_X9_beginAnew 1 (dc_wr (dc_wr (dc_wi z_w.2 2 1 0) 1 7 ((dc_wi z_w.2 2 1 0).2.2.1 1 8)) 1 8 ((dc_wi z_w.2 2 1 0).2.2.1 1 7)) = Q_w at f_w
      have Q12 : Q_w.1 1 12 = 0 := by rw [← hQ]; rfl
      have Q13 : Q_w.1 1 13 = 0 := by rw [← hQ]; rfl
      have hc_w : Q_w = c' := (Prod.mk.inj (Option.some.inj f_w)).2
      rw [hc_w] at Q12 Q13
      exact ⟨A_w, fun q_w => absurd Q12 q_w, fun q_w => absurd Q13 q_w⟩
    · rw [if_neg z1] at f_w
      have f_w : some ((-10 : Int32) - z_w.2.1 2 3, dc_wi z_w.2 2 1 0) = some (v_w, c') := f_w
      have hc_w := (Prod.mk.inj (Option.some.inj f_w)).2
      have ec : ∀ b k_w, b ≠ 2 → ¬ (c.2.2.1 1 8 ≤ b ∧ b ≤ c.2.2.1 1 8 + 10) → c'.1 b k_w = c.1 b k_w := fun b k_w h1 h2 => by
        rw [← hc_w]
        exact (wi_k (by omega)).trans (fi.2 b k_w h1 h2)
      have e7_w : c'.2.2.1 1 7 = c.2.2.1 1 7 := by rw [← hc_w]; exact q7_w
      have el : c'.2.1 = c.2.1 := by rw [← hc_w]; exact ql
      exact ⟨A_w, R.2.1.eqw (ec 1 11 (by decide) (by omega)) (ec 1 12 (by decide) (by omega)) e7_w (fun i_w hi_w h8 => funext (fun k_w => ec _ k_w (by omega) (by omega))) (fun b k_w h1 h2 _ => ec b k_w (by omega) (by omega)) (fun k_w _ => ec 12 k_w (by decide) (by omega)), R.2.2.eqw (ec 1 11 (by decide) (by omega)) (ec 1 13 (by decide) (by omega)) e7_w (ec _ 0 (by omega) (by omega)) (fun b k_w h1 h2 _ => ec b k_w (by omega) (by omega)) (fun k_w => by rw [el]; exact ⟨rfl, rfl⟩) (ec 15 6 (by decide) (by omega)) (ec 15 7 (by decide) (by omega))⟩
theorem RQw.p7w {c m_w c' m' : dc_M} {v_w v' : Int32} (len_w : (c.2.2.2 10).2 = 512) (l13 : (c.2.2.2 13).2 = 64) (R : RQw c m_w) (f_w : d_X9_states 1 c = some (v_w, c')) (g_w : d_X10_states 82 m_w = some (v', m')) : v_w = v' ∧ RQw c' m' := by
  obtain ⟨e_w, A_w⟩ := RAw.p7w len_w R.1 f_w g_w
  exact ⟨e_w, RQw.cqw A_w (cq_X9_states (CQm.rqw R len_w l13) f_w)⟩
theorem RQw.p8w {c m_w c' m' : dc_M} {v_w v' : Int32} (len_w : (c.2.2.2 10).2 = 512) (l13 : (c.2.2.2 13).2 = 64) (hr : ∀ k_w, k_w < 16 → 0 ≤ (m_w.1 86 k_w).toInt ∧ (m_w.1 86 k_w).toInt ≤ 1) (R : RQw c m_w) (f_w : d_X9_right 1 c = some (v_w, c')) (g_w : d_X10_right 82 m_w = some (v', m')) : v_w = v' ∧ RQw c' m' := by
  obtain ⟨e_w, A_w⟩ := RAw.p8w len_w hr R.1 f_w g_w
  exact ⟨e_w, RQw.cqw A_w (cq_X9_right (CQm.rqw R len_w l13) f_w)⟩
theorem RQw.p9w {x1_w x2_w : Int32} {c m_w c' m' : dc_M} {v_w v' : Int32} (len_w : (c.2.2.2 10).2 = 512) (l13 : (c.2.2.2 13).2 = 64) (hr : ∀ k_w, k_w < 16 → 0 ≤ (m_w.1 86 k_w).toInt ∧ (m_w.1 86 k_w).toInt ≤ 1) (R : RQw c m_w) (f_w : d_X9_of 1 x1_w x2_w c = some (v_w, c')) (g_w : d_X10_of 82 x1_w x2_w m_w = some (v', m')) : v_w = v' ∧ RQw c' m' := by
  obtain ⟨e_w, A_w⟩ := RAw.p9w len_w hr R.1 f_w g_w
  exact ⟨e_w, RQw.cqw A_w (cq_X9_of (CQm.rqw R len_w l13) f_w)⟩
theorem RQw.q10w {x1_w : Int32} {c m_w c' m' : dc_M} {v_w v' : Int32} (len_w : (c.2.2.2 10).2 = 512) (l13 : (c.2.2.2 13).2 = 64) (R : RQw c m_w) (f_w : d_X9_quarrels 1 x1_w c = some (v_w, c')) (g_w : d_X10_quarrels 82 x1_w m_w = some (v', m')) : RQw c' m' := RQw.cqw (RAw.q10w len_w R.1 f_w g_w) (cq_X9_quarrels (CQm.rqw R len_w l13) f_w)
theorem RQw.q11w {x1_w : Int32} {c m_w c' m' : dc_M} {v_w v' : Int32} (len_w : (c.2.2.2 10).2 = 512) (l13 : (c.2.2.2 13).2 = 64) (R : RQw c m_w) (f_w : d_X9_back 1 x1_w c = some (v_w, c')) (g_w : d_X10_back 82 x1_w m_w = some (v', m')) : RQw c' m' := RQw.cqw (RAw.q11w len_w R.1 f_w g_w) (cq_X9_back (CQm.rqw R len_w l13) f_w)
theorem RQw.q12w {x1_w : Int32} {c m_w c' m' : dc_M} {v_w v' : Int32} (len_w : (c.2.2.2 10).2 = 512) (l13 : (c.2.2.2 13).2 = 64) (R : RQw c m_w) (f_w : d_X9_stuck 1 x1_w c = some (v_w, c')) (g_w : d_X10_stuck 82 x1_w m_w = some (v', m')) : RQw c' m' := RQw.cqw (RAw.q12w len_w R.1 f_w g_w) (cq_X9_stuck (CQm.rqw R len_w l13) f_w)
theorem RQw.q13w {x1_w x2_w : Int32} {c m_w c' m' : dc_M} {v_w v' : Int32} (len_w : (c.2.2.2 10).2 = 512) (l13 : (c.2.2.2 13).2 = 64) (R : RQw c m_w) (f_w : d_X9_aim 1 x1_w x2_w c = some (v_w, c')) (g_w : d_X10_aim 82 x1_w x2_w m_w = some (v', m')) : RQw c' m' := RQw.cqw (RAw.q13w len_w R.1 f_w g_w) (cq_X9_aim (CQm.rqw R len_w l13) f_w)
theorem RQw.q14w {x1_w x2_w : Int32} {c m_w c' m' : dc_M} {v_w v' : Int32} (len_w : (c.2.2.2 10).2 = 512) (l13 : (c.2.2.2 13).2 = 64) (R : RQw c m_w) (f_w : d_X9_makes 1 x1_w x2_w c = some (v_w, c')) (g_w : d_X10_makes 82 x1_w x2_w m_w = some (v', m')) : RQw c' m' := RQw.cqw (RAw.q14w len_w R.1 f_w g_w) (cq_X9_makes (CQm.rqw R len_w l13) f_w)
theorem RQw.q15w {x1_w x2_w x3 x4_w x5_w : Int32} {c m_w c' m' : dc_M} {v_w v' : Int32} (len_w : (c.2.2.2 10).2 = 512) (l13 : (c.2.2.2 13).2 = 64) (R : RQw c m_w) (f_w : d_X9_judge 1 x1_w x2_w x3 x4_w x5_w c = some (v_w, c')) (g_w : d_X10_judge 82 x1_w x2_w x3 x4_w x5_w m_w = some (v', m')) : RQw c' m' := RQw.cqw (RAw.q15w len_w R.1 f_w g_w) (cq_X9_judge (CQm.rqw R len_w l13) f_w)
theorem RQw.q16w {c m_w c' m' : dc_M} {v_w v' : Int32} (len_w : (c.2.2.2 10).2 = 512) (l13 : (c.2.2.2 13).2 = 64) (R : RQw c m_w) (f_w : d_X9_cost 1 c = some (v_w, c')) (g_w : d_X10_cost 82 m_w = some (v', m')) : RQw c' m' := RQw.cqw (RAw.q16w len_w R.1 f_w g_w) (cq_X9_cost (CQm.rqw R len_w l13) f_w)
theorem RQw.q17w {x1_w x2_w : Int32} {c m_w c' m' : dc_M} {v_w v' : Int32} (len_w : (c.2.2.2 10).2 = 512) (l13 : (c.2.2.2 13).2 = 64) (R : RQw c m_w) (f_w : d_X9_would 1 x1_w x2_w c = some (v_w, c')) (g_w : d_X10_would 82 x1_w x2_w m_w = some (v', m')) : RQw c' m' := RQw.cqw (RAw.q17w len_w R.1 f_w g_w) (cq_X9_would (CQm.rqw R len_w l13) f_w)
theorem RQw.q19w {x1_w : Int32} {c m_w c' m' : dc_M} {v_w v' : Int32} (len_w : (c.2.2.2 10).2 = 512) (l13 : (c.2.2.2 13).2 = 64) (R : RQw c m_w) (f_w : d_X9_cures 1 x1_w c = some (v_w, c')) (g_w : d_X10_cures 82 x1_w m_w = some (v', m')) : RQw c' m' := RQw.cqw (RAw.q19 len_w R.1 f_w g_w) (cq_X9_cures (CQm.rqw R len_w l13) f_w)
