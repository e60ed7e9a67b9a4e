/-! ===== the run, the sheets, and what the class remembers of the rings ===== -/
theorem SBw.eqw {a : Nat} {c c' : dc_M} (S_w : SBw a c) (e_w : ∀ b_w, a ≤ b_w → b_w ≤ a + 10 → c'.1 b_w = c.1 b_w) (h30 : ∀ k_w, k_w = 1 ∨ k_w = 2 ∨ k_w = 3 ∨ k_w = 7 → c'.1 30 k_w = c.1 30 k_w) (h31 : c'.1 31 = c.1 31) (h32 : c'.1 32 = c.1 32) (h33 : c'.1 33 = c.1 33) : SBw a c' := by
  obtain ⟨E_w, P_w, fr_w, to_w, od, s1, s2, s3, N_w, D_w, s4_w, s5⟩ := S_w
  refine ⟨E_w, P_w, fr_w, to_w, od, s1.eqw e_w, s2.eqw e_w, s3.eqw (h30 7 (by omega)) h31 h32 h33 (by rw [e_w a (by omega) (by omega)]), N_w, D_w, ?_, ?_⟩
  · rw [e_w a (by omega) (by omega), e_w (a + 8) (by omega) (by omega), h30 3 (by omega)]
    exact s4_w
  · rw [h30 1 (by omega), h30 2 (by omega)]
    exact s5
def MDw (c : dc_M) : Prop := RFw c ∧ DLb (c.2.2.1 1 7) c ∧ (c.1 1 14 ≠ 0 → MGw (c.2.2.1 1 7) c ∧ (¬ (c.1 30 0).toInt = 0 → SBw (c.2.2.1 1 7) c))
theorem DLb.eqw {a : Nat} {c c' : dc_M} (D_w : DLb a c) (e0_w : c'.1 a 1 = c.1 a 1) (e8 : c'.1 (a + 8) = c.1 (a + 8)) : DLb a c' := ⟨D_w.1, fun k_w hk => by rw [e0_w] at hk; rw [e8]; exact D_w.2 k_w hk⟩
theorem MDw.eqw {c c' : dc_M} (K : MDw c) (e14_w : c'.1 1 14 = c.1 1 14) (e7_w : c'.2.2.1 1 7 = c.2.2.1 1 7) (e30 : c'.2.2.1 30 = c.2.2.1 30) (en : ∀ i_w, i_w ≤ 10 → c'.1 (c.2.2.1 1 7 + i_w) = c.1 (c.2.2.1 1 7 + i_w)) (er : ∀ x_w, 30 ≤ x_w → x_w ≤ 33 → c'.1 x_w = c.1 x_w) : MDw c' := by
  obtain ⟨k1_w, k2, k3_w⟩ := K
  refine ⟨by unfold RFw; rw [e30]; exact k1_w, ?_, fun h_w => ?_⟩
  · rw [e7_w]
    exact k2.eqw (by rw [show c'.1 (c.2.2.1 1 7) = c.1 (c.2.2.1 1 7) from en 0 (by omega)]) (en 8 (by omega))
  · rw [e14_w] at h_w
    rw [e7_w]
    have cb : ∀ b_w, c.2.2.1 1 7 ≤ b_w → b_w ≤ c.2.2.1 1 7 + 10 → c'.1 b_w = c.1 b_w := fun b_w b1 b2 => by have := en (b_w - c.2.2.1 1 7) (by omega); rw [show c.2.2.1 1 7 + (b_w - c.2.2.1 1 7) = b_w by omega] at this; exact this
    have e0_w : c'.1 30 = c.1 30 := er 30 (by omega) (by omega)
    refine ⟨(k3_w h_w).1.eqw cb (by rw [e0_w]) (by rw [e0_w]) (er 31 (by omega) (by omega)) (er 32 (by omega) (by omega)) (er 33 (by omega) (by omega)), fun q_w => ?_⟩
    rw [e0_w] at q_w
    exact ((k3_w h_w).2 q_w).eqw cb (fun k_w _ => by rw [e0_w]) (er 31 (by omega) (by omega)) (er 32 (by omega) (by omega)) (er 33 (by omega) (by omega))
def RDw (c m_w : dc_M) : Prop := RAw c m_w ∧ MDw c
theorem RDw.sm (c m_w m' : dc_M) (v_w : vs 82 120 m_w m') (R : RDw c m_w) : RDw c m' := ⟨RAw.sm c m_w m' v_w R.1, R.2⟩
theorem RDw.sc (c c' m_w : dc_M) (v_w : vs 1 82 c c') (R : RDw c m_w) : RDw c' m_w := by
  have ha_w := md41 R.1.1.1.2.2
  have w_w := v_w 1 (by decide) (by decide)
  exact ⟨RAw.sc c c' m_w v_w R.1, R.2.eqw (by rw [w_w.1]) (by rw [w_w.2.2.1]) ((v_w 30 (by decide) (by decide)).2.2.1) (fun i_w hi_w => (v_w _ (by omega) (by omega)).1) (fun x_w x1_w x2_w => (v_w x_w (by omega) (by omega)).1)⟩
theorem RDw.md (c m_w : dc_M) (R : RDw c m_w) : cs_md (c.2.2.1 1 7) (c.2.2.1 1 8) := RAw.md c m_w R.1
def RD_D : List Nat := [142]
def RD_c (x_w : Nat) : Bool := decide (x_w / 128 < 30) || decide (36 < x_w / 128)
section RDw
variable {z_w L_w : Nat} {xs : Nat → Int32} {h_w h' : ab_H}
theorem RDw.fr {mo : List Nat} (hD : ((((Rt_D.all (fun k_w => !mo.contains k_w) && RN_D.all (fun k_w => !mo.contains k_w)) && mo.all RN_c) && (RA_D.all (fun k_w => !mo.contains k_w) && mo.all RA_c)) && (RD_D.all (fun k_w => !mo.contains k_w) && mo.all RD_c)) = true) (hh : sx_h sx_SP z_w L_w xs h_w) (hh' : sx_h sx_SP z_w L_w xs h') (hfr : sx_fr mo h_w h') (R : GR RDw h_w) : GR RDw h' := by
  rw [Bool.and_eq_true] at hD
  obtain ⟨hA, hB_w⟩ := hD
  rw [Bool.and_eq_true] at hB_w
  obtain ⟨hB_w, hC⟩ := hB_w
  have t_w := RAw.fr hA hh hh' hfr ⟨R.1.1, R.2⟩
  rw [Bool.and_eq_true, Bool.and_eq_true, Bool.and_eq_true] at hA
  obtain ⟨⟨⟨hA1, -⟩, hA3⟩, -⟩ := hA
  obtain ⟨e7_w, e8⟩ := gm_same hfr hh hh' (D_c hA1 (by decide)) (D_c hA1 (by decide))
  have ha_w := md41 R.1.1.1.1.2.2
  have f14_w : (dc_vw h').1 1 14 = (dc_vw h_w).1 1 14 := gd_fi (c := 1) hfr hh hh' rfl (D_c hB_w (by decide)) (by decide)
  have rc : ∀ b_w, (4 ≤ b_w ∧ b_w ≤ 10) ∨ (41 ≤ b_w ∧ b_w ≤ 62) → (dc_vw h').1 b_w = (dc_vw h_w).1 b_w := fun b_w hb_w => rn_cell hA3 hfr hh hh' (by omega)
  have ob_w : ∀ b_w, 30 ≤ b_w → b_w ≤ 36 → h'.2.2 b_w = h_w.2.2 b_w := fun b_w b1 b2 => fr_cell hfr hh hh' (by omega) (by omega) (List.all_eq_true.mpr (fun x_w hx => by
    have q_w := List.all_eq_true.mp hC x_w hx
    unfold RD_c at q_w
    simp only [Bool.or_eq_true, decide_eq_true_eq] at q_w
    rw [decide_eq_false (by omega)]
    rfl))
  exact ⟨⟨t_w.1, R.1.2.eqw f14_w e7_w (by show dc_vr (h'.2.2 30) = dc_vr (h_w.2.2 30); rw [ob_w 30 (by decide) (by decide)]) (fun i_w hi_w => rc _ (by omega)) (fun x_w x1_w x2_w => by show dc_vi (h'.2.2 x_w) = dc_vi (h_w.2.2 x_w); rw [ob_w x_w x1_w (by omega)])⟩, t_w.2⟩
theorem vt_34 (hh : sx_h sx_SP z_w L_w xs h_w) : ((dc_vw h_w).2.2.2 34).2 = 16 := by
  obtain ⟨f_w, r_w, -⟩ := nw_a (a := 34) rfl (by decide) (by decide) hh
  have r_w := (ab_rd_of r_w).2
  show (dc_vt (h_w.2.2 34)).2 = 16
  rw [r_w]
  rfl
theorem vt_35 (hh : sx_h sx_SP z_w L_w xs h_w) : ((dc_vw h_w).2.2.2 35).2 = 16 := by
  obtain ⟨f_w, r_w, -⟩ := nw_a (a := 35) rfl (by decide) (by decide) hh
  have r_w := (ab_rd_of r_w).2
  show (dc_vt (h_w.2.2 35)).2 = 16
  rw [r_w]
  rfl
end RDw
theorem RDm.rdw {c m_w : dc_M} (R : RDw c m_w) (len_w : (c.2.2.2 10).2 = 512) : RDm (c.2.2.1 1 7) (c.2.2.1 1 8) c c := ⟨CP.of R.1.1 len_w, rfl, fun _ _ _ _ => rfl⟩
theorem MDw.rdm {c c' : dc_M} (K : MDw c) (Q_w : RDm (c.2.2.1 1 7) (c.2.2.1 1 8) c c') : MDw c' := by
  obtain ⟨P_w, e14_w, er⟩ := Q_w
  exact K.eqw e14_w (by rw [P_w.2.2.2.1]) (by rw [P_w.2.2.2.1]) (fun i_w hi_w => funext (fun k_w => P_w.2.2.2.2.2.2 _ k_w (by omega))) (fun x_w x1_w x2_w => funext (fun k_w => er x_w k_w x1_w (by omega)))
theorem RDw.rdm {c c' m_w m' : dc_M} (R : RDw c m_w) (A_w : RAw c' m') (Q_w : RDm (c.2.2.1 1 7) (c.2.2.1 1 8) c c') : RDw c' m' := ⟨A_w, R.2.rdm Q_w⟩
theorem RDw.kmw {c m_w c' m' : dc_M} (R : RDw c m_w) (A_w : RAw c' m') (K : KMw c c') : RDw c' m' := by
  have ha_w := md41 R.1.1.1.2.2
  exact ⟨A_w, R.2.eqw (K.1 1 14 (by decide)) (by rw [K.2]) (by rw [K.2]) (fun i_w hi_w => funext (fun k_w => K.1 _ k_w (by omega))) (fun x_w x1_w x2_w => funext (fun k_w => K.1 x_w k_w (by omega)))⟩
theorem RDw.p0w {V : Int64} {c m_w c' m' : dc_M} {v_w v' : Int32} (ty_w : (c.2.2.2 3).1 = 1) (R : RDw c m_w) (f_w : d_X9_feed 1 V c = some (v_w, c')) (g_w : d_X10_feed 82 V m_w = some (v', m')) : v_w = v' ∧ RDw c' m' := by
  obtain ⟨-, -, r1_w, r2, -⟩ := fe_sim R.1.1.1.1 ty_w f_w g_w
  obtain ⟨e_w, A_w⟩ := RAw.p0w ty_w R.1 f_w g_w
  exact ⟨e_w, R.kmw A_w ⟨fun b_w k_w hb_w => r2 b_w k_w (by omega) (by omega), r1_w⟩⟩
theorem RDw.p1w {x_w : Int32} {c m_w c' m' : dc_M} {v_w v' : Int32} (R : RDw c m_w) (f_w : d_X9_end 1 x_w c = (v_w, c')) (g_w : d_X10_end 82 x_w m_w = (v', m')) : v_w = v' ∧ RDw c' m' := by
  obtain ⟨-, -, r1_w, r2, -⟩ := en_sim R.1.1.1.1 f_w g_w
  obtain ⟨e_w, A_w⟩ := RAw.p1w R.1 f_w g_w
  exact ⟨e_w, R.kmw A_w ⟨fun b_w k_w hb_w => r2 b_w k_w (by omega), r1_w⟩⟩
theorem RDw.p2w {c m_w c' m' : dc_M} {v_w v' : Int32} (R : RDw c m_w) (f_w : d_X9_text 1 c = some (v_w, c')) (g_w : d_X10_text 82 m_w = some (v', m')) : v_w = v' ∧ RDw c' m' := by
  obtain ⟨e_w, A_w⟩ := RAw.p2w R.1 f_w g_w
  refine ⟨e_w, A_w, ?_⟩
  have md := R.1.1.1.2.2
  unfold cs_md at md
  have h41 : c.2.2.1 1 8 = 41 ∨ c.2.2.1 1 8 = 52 := by omega
  unfold d_X9_text at f_w
  rw [show 1 + 1 = 2 from rfl] at f_w
  cases hz : d_X4_readInto 2 (c.2.2.1 1 8) c with
  | none => rw [hz] at f_w; cases f_w
  | some z_w =>
    rw [hz, Option.bind_some] at f_w
    have rr := rr_into hz
    have q7_w : z_w.2.2.2.1 1 7 = c.2.2.1 1 7 := by rw [rr]; rfl
    have q8_w : z_w.2.2.2.1 1 8 = c.2.2.1 1 8 := by rw [rr]; rfl
    have q30 : z_w.2.2.2.1 30 = c.2.2.1 30 := by rw [rr]; rfl
    have fi := fa_into hz
    by_cases z1 : ¬ z_w.1.toInt = 0
    · rw [if_pos z1, dc_let_eq] at f_w
      generalize hQ : d_X9_beginAnew 1 (dc_wr (dc_wr (dc_wi z_w.2 2 1 0) 1 7 ((dc_wi z_w.2 2 1 0).2.2.1 1 8)) 1 8 ((dc_wi z_w.2 2 1 0).2.2.1 1 7)) = Q_w at f_w
      have Q14 : Q_w.1 1 14 = 0 := by rw [← hQ]; rfl
      have Q7 : Q_w.2.2.1 1 7 = c.2.2.1 1 8 := by rw [← hQ]; exact q8_w
      have Q30 : Q_w.2.2.1 30 = c.2.2.1 30 := by rw [← hQ]; exact q30
      have Qc : ∀ y_w, 41 ≤ y_w → Q_w.1 y_w = z_w.2.1 y_w := fun y_w hy => by
        rw [← hQ]
        unfold d_X9_beginAnew
        exact funext (fun k_w => ((((((((wi_k (by omega)).trans (wi_k (by omega))).trans (wi_k (by omega))).trans (wi_k (by omega))).trans (wi_k (by omega))).trans (wi_k (by omega))).trans (wi_k (by omega)))).trans (wi_k (by omega)))
      have hc_w : Q_w = c' := (Prod.mk.inj (Option.some.inj f_w)).2
      rw [← hc_w]
      refine ⟨by unfold RFw; rw [Q30]; exact R.2.1, ?_, fun q_w => absurd Q14 q_w⟩
      rw [Q7]
      exact (fd_into h41 hz).eqw (by rw [Qc _ (by omega)]) (Qc _ (by omega))
    · rw [if_neg z1] at f_w
      have f_w : some ((-10 : Int32) - z_w.2.1 2 3, dc_wi z_w.2 2 1 0) = some (v_w, c') := f_w
      have hc_w := (Prod.mk.inj (Option.some.inj f_w)).2
      have ec : ∀ b_w k_w, b_w ≠ 2 → ¬ (c.2.2.1 1 8 ≤ b_w ∧ b_w ≤ c.2.2.1 1 8 + 10) → c'.1 b_w k_w = c.1 b_w k_w := fun b_w k_w h1 h2 => by
        rw [← hc_w]
        exact (wi_k (by omega)).trans (fi.2 b_w k_w h1 h2)
      exact R.2.eqw (ec 1 14 (by decide) (by omega)) (by rw [← hc_w]; exact q7_w) (by rw [← hc_w]; exact q30) (fun i_w hi_w => funext (fun k_w => ec _ k_w (by omega) (by omega))) (fun x_w x1_w x2_w => funext (fun k_w => ec x_w k_w (by omega) (by omega)))
theorem RDw.p7w {c m_w c' m' : dc_M} {v_w v' : Int32} (len_w : (c.2.2.2 10).2 = 512) (R : RDw c m_w) (f_w : d_X9_states 1 c = some (v_w, c')) (g_w : d_X10_states 82 m_w = some (v', m')) : v_w = v' ∧ RDw c' m' := by
  obtain ⟨e_w, A_w⟩ := RAw.p7w len_w R.1 f_w g_w
  exact ⟨e_w, R.rdm A_w (rd_X9_states (RDm.rdw R len_w) f_w)⟩
theorem RDw.p8w {c m_w c' m' : dc_M} {v_w v' : Int32} (len_w : (c.2.2.2 10).2 = 512) (hr : ∀ k_w, k_w < 16 → 0 ≤ (m_w.1 86 k_w).toInt ∧ (m_w.1 86 k_w).toInt ≤ 1) (R : RDw c m_w) (f_w : d_X9_right 1 c = some (v_w, c')) (g_w : d_X10_right 82 m_w = some (v', m')) : v_w = v' ∧ RDw c' m' := by
  obtain ⟨e_w, A_w⟩ := RAw.p8w len_w hr R.1 f_w g_w
  exact ⟨e_w, R.rdm A_w (rd_X9_right (RDm.rdw R len_w) f_w)⟩
theorem RDw.p9w {x1_w x2_w : Int32} {c m_w c' m' : dc_M} {v_w v' : Int32} (len_w : (c.2.2.2 10).2 = 512) (hr : ∀ k_w, k_w < 16 → 0 ≤ (m_w.1 86 k_w).toInt ∧ (m_w.1 86 k_w).toInt ≤ 1) (R : RDw c m_w) (f_w : d_X9_of 1 x1_w x2_w c = some (v_w, c')) (g_w : d_X10_of 82 x1_w x2_w m_w = some (v', m')) : v_w = v' ∧ RDw c' m' := by
  obtain ⟨e_w, A_w⟩ := RAw.p9w len_w hr R.1 f_w g_w
  exact ⟨e_w, R.rdm A_w (rd_X9_of (RDm.rdw R len_w) f_w)⟩
theorem RDw.q10w {x1_w : Int32} {c m_w c' m' : dc_M} {v_w v' : Int32} (len_w : (c.2.2.2 10).2 = 512) (R : RDw c m_w) (f_w : d_X9_quarrels 1 x1_w c = some (v_w, c')) (g_w : d_X10_quarrels 82 x1_w m_w = some (v', m')) : RDw c' m' := R.rdm (RAw.q10w len_w R.1 f_w g_w) (rd_X9_quarrels (RDm.rdw R len_w) f_w)
theorem RDw.q11w {x1_w : Int32} {c m_w c' m' : dc_M} {v_w v' : Int32} (len_w : (c.2.2.2 10).2 = 512) (R : RDw c m_w) (f_w : d_X9_back 1 x1_w c = some (v_w, c')) (g_w : d_X10_back 82 x1_w m_w = some (v', m')) : RDw c' m' := R.rdm (RAw.q11w len_w R.1 f_w g_w) (rd_X9_back (RDm.rdw R len_w) f_w)
theorem RDw.q12w {x1_w : Int32} {c m_w c' m' : dc_M} {v_w v' : Int32} (len_w : (c.2.2.2 10).2 = 512) (R : RDw c m_w) (f_w : d_X9_stuck 1 x1_w c = some (v_w, c')) (g_w : d_X10_stuck 82 x1_w m_w = some (v', m')) : RDw c' m' := R.rdm (RAw.q12w len_w R.1 f_w g_w) (rd_X9_stuck (RDm.rdw R len_w) f_w)
theorem RDw.q13w {x1_w x2_w : Int32} {c m_w c' m' : dc_M} {v_w v' : Int32} (len_w : (c.2.2.2 10).2 = 512) (R : RDw c m_w) (f_w : d_X9_aim 1 x1_w x2_w c = some (v_w, c')) (g_w : d_X10_aim 82 x1_w x2_w m_w = some (v', m')) : RDw c' m' := R.rdm (RAw.q13w len_w R.1 f_w g_w) (rd_X9_aim (RDm.rdw R len_w) f_w)
theorem RDw.q14w {x1_w x2_w : Int32} {c m_w c' m' : dc_M} {v_w v' : Int32} (len_w : (c.2.2.2 10).2 = 512) (R : RDw c m_w) (f_w : d_X9_makes 1 x1_w x2_w c = some (v_w, c')) (g_w : d_X10_makes 82 x1_w x2_w m_w = some (v', m')) : RDw c' m' := R.rdm (RAw.q14w len_w R.1 f_w g_w) (rd_X9_makes (RDm.rdw R len_w) f_w)
theorem RDw.q15w {x1_w x2_w x3 x4_w x5_w : Int32} {c m_w c' m' : dc_M} {v_w v' : Int32} (len_w : (c.2.2.2 10).2 = 512) (R : RDw c m_w) (f_w : d_X9_judge 1 x1_w x2_w x3 x4_w x5_w c = some (v_w, c')) (g_w : d_X10_judge 82 x1_w x2_w x3 x4_w x5_w m_w = some (v', m')) : RDw c' m' := R.rdm (RAw.q15w len_w R.1 f_w g_w) (rd_X9_judge (RDm.rdw R len_w) f_w)
theorem RDw.q16w {c m_w c' m' : dc_M} {v_w v' : Int32} (len_w : (c.2.2.2 10).2 = 512) (R : RDw c m_w) (f_w : d_X9_cost 1 c = some (v_w, c')) (g_w : d_X10_cost 82 m_w = some (v', m')) : RDw c' m' := R.rdm (RAw.q16w len_w R.1 f_w g_w) (rd_X9_cost (RDm.rdw R len_w) f_w)
theorem RDw.q17w {x1_w x2_w : Int32} {c m_w c' m' : dc_M} {v_w v' : Int32} (len_w : (c.2.2.2 10).2 = 512) (R : RDw c m_w) (f_w : d_X9_would 1 x1_w x2_w c = some (v_w, c')) (g_w : d_X10_would 82 x1_w x2_w m_w = some (v', m')) : RDw c' m' := R.rdm (RAw.q17w len_w R.1 f_w g_w) (rd_X9_would (RDm.rdw R len_w) f_w)
theorem RDw.q19w {x1_w : Int32} {c m_w c' m' : dc_M} {v_w v' : Int32} (len_w : (c.2.2.2 10).2 = 512) (R : RDw c m_w) (f_w : d_X9_cures 1 x1_w c = some (v_w, c')) (g_w : d_X10_cures 82 x1_w m_w = some (v', m')) : RDw c' m' := R.rdm (RAw.q19 len_w R.1 f_w g_w) (rd_X9_cures (RDm.rdw R len_w) f_w)
theorem RDw.p18 {x1_w x2_w : Int32} {c m_w c' m' : dc_M} {v_w v' : Int32} (len_w : (c.2.2.2 10).2 = 512) (hr : ∀ k_w, k_w < 16 → 0 ≤ (m_w.1 86 k_w).toInt ∧ (m_w.1 86 k_w).toInt ≤ 1) (R : RDw c m_w) (f_w : d_X9_cure 1 x1_w x2_w c = some (v_w, c')) (g_w : d_X10_cure 82 x1_w x2_w m_w = some (v', m')) : v_w = v' ∧ RDw c' m' := by
  obtain ⟨e_w, A_w⟩ := RAw.p18 len_w hr R.1 f_w g_w
  refine ⟨e_w, A_w, ?_⟩
  unfold d_X9_cure at f_w
  cases hq : d_X9_refusedCure 1 x1_w x2_w c with
  | none => rw [hq] at f_w; cases f_w
  | some q_w =>
    rw [hq, Option.bind_some] at f_w
    have K := R.2.rdm (rd_X9_refusedCure (RDm.rdw R len_w) hq)
    by_cases z_w : q_w.1.toInt = 0
    · rw [if_pos z_w] at f_w
      cases hw : d_X3_addWireBehind (q_w.2.2.2.1 1 7) x1_w x2_w q_w.2 with
      | none => rw [hw] at f_w; cases f_w
      | some w_w =>
        rw [hw, Option.bind_some, dc_let_eq] at f_w
        have w2_w : w_w.2 = q_w.2.2 := ru_X3_addWireBehind (show RUm q_w.2.2 q_w.2 from rfl) hw
        have wD : DLb (q_w.2.2.2.1 1 7) w_w := fu_X3_addWireBehind rfl K.2.1 hw
        have hc_w : d_X9_beginAnew 1 w_w = c' := (Prod.mk.inj (Option.some.inj f_w)).2
        have Q14 : (d_X9_beginAnew 1 w_w).1 1 14 = 0 := rfl
        have Q2_w : (d_X9_beginAnew 1 w_w).2 = q_w.2.2 := w2_w
        have Qc : ∀ y_w, 41 ≤ y_w → (d_X9_beginAnew 1 w_w).1 y_w = w_w.1 y_w := fun y_w hy => by
          unfold d_X9_beginAnew
          exact funext (fun k_w => ((((((wi_k (by omega)).trans (wi_k (by omega))).trans (wi_k (by omega))).trans (wi_k (by omega))).trans (wi_k (by omega))).trans (wi_k (by omega))).trans (wi_k (by omega)))
        have h41 := wD.1
        rw [← hc_w]
        refine ⟨by unfold RFw; rw [Q2_w]; exact K.1, ?_, fun q_w => absurd Q14 q_w⟩
        rw [Q2_w]
        exact wD.eqw (by rw [Qc _ (by omega)]) (Qc _ (by omega))
    · rw [if_neg z_w] at f_w
      have f_w := (Prod.mk.inj (Option.some.inj f_w)).2
      rw [← f_w]
      exact K
theorem RDw.p20 {x1_w x2_w : Int32} {c m_w c' m' : dc_M} {v_w v' : Int32} (R : RDw c m_w) (f_w : d_X9_delay 1 x1_w x2_w c = (v_w, c')) (g_w : d_X10_delay 82 x1_w x2_w m_w = (v', m')) : v_w = v' ∧ RDw c' m' := by
  have ha_w := md41 R.1.1.1.2.2
  obtain ⟨e_w, A_w⟩ := RAw.p20 R.1 f_w g_w
  refine ⟨e_w, A_w, ?_⟩
  obtain ⟨k1_w, k2, k3_w⟩ := R.2
  unfold d_X9_delay at f_w
  by_cases c1_w : (d_X3_hasEvent (c.2.2.1 1 7) x1_w c).toInt = 0
  · rw [if_pos c1_w] at f_w
    rw [← (Prod.mk.inj f_w).2]
    exact R.2
  · rw [if_neg c1_w] at f_w
    by_cases c2_w : x2_w.toInt < 1
    · rw [if_pos c2_w] at f_w
      rw [← (Prod.mk.inj f_w).2]
      exact R.2
    · rw [if_neg c2_w] at f_w
      by_cases c3_w : x2_w.toInt ≤ 20
      · rw [if_pos c3_w] at f_w
        rw [← (Prod.mk.inj f_w).2]
        refine ⟨k1_w, ⟨k2.1, fun k_w hk => ?_⟩, fun q_w => absurd wi_s q_w⟩
        have hk : (k_w : Int) < ((dc_wi (dc_wi c (c.2.2.1 1 7 + 8) x1_w.toNatClampNeg x2_w) 1 14 0).1 (c.2.2.1 1 7) 1).toInt := hk
        show 0 ≤ ((dc_wi (dc_wi c (c.2.2.1 1 7 + 8) x1_w.toNatClampNeg x2_w) 1 14 0).1 (c.2.2.1 1 7 + 8) k_w).toInt ∧ ((dc_wi (dc_wi c (c.2.2.1 1 7 + 8) x1_w.toNatClampNeg x2_w) 1 14 0).1 (c.2.2.1 1 7 + 8) k_w).toInt ≤ 20
        rw [wi_k (by omega), wi_k (by omega)] at hk
        rw [wi_k (by omega)]
        by_cases z_w : k_w = x1_w.toNatClampNeg
        · rw [z_w, wi_s]
          omega
        · rw [wi_k (by omega)]
          exact k2.2 k_w hk
      · rw [if_neg c3_w] at f_w
        rw [← (Prod.mk.inj f_w).2]
        exact R.2
theorem RDw.p23 {x1_w : Int32} {c m_w c' m' : dc_M} {v_w v' : Int32} (R : RDw c m_w) (f_w : d_X9_come 1 x1_w c = (v_w, c')) (g_w : d_X10_come 82 x1_w m_w = (v', m')) : v_w = v' ∧ RDw c' m' := by
  obtain ⟨e_w, A_w⟩ := RAw.p23 R.1 f_w g_w
  exact ⟨e_w, R.kmw A_w (km_come f_w)⟩
theorem RDw.p24 {c m_w c' m' : dc_M} {v_w v' : Int32} (R : RDw c m_w) (f_w : d_X9_undo 1 c = (v_w, c')) (g_w : d_X10_undo 82 m_w = (v', m')) : v_w = v' ∧ RDw c' m' := by
  obtain ⟨e_w, A_w⟩ := RAw.p24 R.1 f_w g_w
  exact ⟨e_w, R.kmw A_w (km_undo f_w)⟩
theorem RDw.p26 {x1_w x2_w x3 : Int32} {c m_w c' m' : dc_M} {v_w v' : Int32} (h40 : ∀ j, j < 4 → c.2.2.1 40 j = 74 + 2 * j) (hl : ∀ j, j < 4 → (c.2.2.2 (75 + 2 * j)).2 = 64) (R : RDw c m_w) (f_w : d_X9_sheet 1 x1_w x2_w x3 c = some (v_w, c')) (g_w : d_X10_sheet 82 x1_w x2_w x3 m_w = some (v', m')) : v_w = v' ∧ RDw c' m' := by
  obtain ⟨e_w, A_w⟩ := RAw.p26 h40 hl R.1 f_w g_w
  exact ⟨e_w, R.kmw A_w (km_sheet h40 hl f_w)⟩
theorem RDw.p27 {x1_w x2_w x3 : Int32} {c m_w c' m' : dc_M} {v_w v' : Int32} (h40 : ∀ j, j < 4 → c.2.2.1 40 j = 74 + 2 * j) (R : RDw c m_w) (f_w : d_X9_lay 1 x1_w x2_w x3 c = (v_w, c')) (g_w : d_X10_lay 82 x1_w x2_w x3 m_w = (v', m')) : v_w = v' ∧ RDw c' m' := by
  obtain ⟨e_w, A_w⟩ := RAw.p27 h40 R.1 f_w g_w
  exact ⟨e_w, R.kmw A_w (km_lay h40 f_w)⟩
