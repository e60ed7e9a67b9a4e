/-! ===== the run, the sheets, and what the class remembers of states astray ===== -/
def RBw (c m_w : dc_M) : Prop := RAw c m_w ∧ MAw c
theorem RBw.sm (c m_w m' : dc_M) (v_w : vs 82 120 m_w m') (R : RBw c m_w) : RBw c m' := ⟨RAw.sm c m_w m' v_w R.1, R.2⟩
theorem RBw.sc (c c' m_w : dc_M) (v_w : vs 1 82 c c') (R : RBw c m_w) : RBw c' m_w := ⟨RAw.sc c c' m_w v_w R.1, R.2.ofw (by rw [(v_w 1 (by decide) (by decide)).1]) (fun b_w k_w b1 b2 => by rw [(v_w b_w (by omega) (by omega)).1])⟩
theorem RBw.md (c m_w : dc_M) (R : RBw c m_w) : cs_md (c.2.2.1 1 7) (c.2.2.1 1 8) := RAw.md c m_w R.1
section RBw
variable {z_w L_w : Nat} {xs : Nat → Int32} {h_w h' : ab_H}
theorem RBw.fr {mo : List Nat} (hD : (((Rt_D.all (fun k_w => !mo.contains k_w) && RN_D.all (fun k_w => !mo.contains k_w)) && mo.all RN_c) && (RA_D.all (fun k_w => !mo.contains k_w) && mo.all RA_c)) = true) (hh : sx_h sx_SP z_w L_w xs h_w) (hh' : sx_h sx_SP z_w L_w xs h') (hfr : sx_fr mo h_w h') (R : GR RBw h_w) : GR RBw h' := by
  have t_w := RAw.fr hD hh hh' hfr ⟨R.1.1, R.2⟩
  have hA := hD
  rw [Bool.and_eq_true, Bool.and_eq_true, Bool.and_eq_true] at hA
  obtain ⟨⟨⟨hA1, hA2⟩, hA3⟩, -⟩ := hA
  have f11_w : (dc_vw h').1 1 11 = (dc_vw h_w).1 1 11 := gd_fi (c := 1) hfr hh hh' rfl (D_c hA2 (by decide)) (by decide)
  have rc : ∀ b_w, 4 ≤ b_w → b_w ≤ 10 → (dc_vw h').1 b_w = (dc_vw h_w).1 b_w := fun b_w b1 b2 => rn_cell hA3 hfr hh hh' (by omega)
  exact ⟨⟨t_w.1, R.1.2.ofw f11_w (fun b_w k_w b1 b2 => by rw [rc b_w b1 b2])⟩, t_w.2⟩
theorem vt_11 (hh : sx_h sx_SP z_w L_w xs h_w) : ((dc_vw h_w).2.2.2 11).2 = 200 := by
  obtain ⟨f_w, r_w, -⟩ := nw_a (a := 11) rfl (by decide) (by decide) hh
  have r_w := (ab_rd_of r_w).2
  show (dc_vt (h_w.2.2 11)).2 = 200
  rw [r_w]
  rfl
end RBw
theorem CAm.rbw {c m_w : dc_M} (R : RBw c m_w) (len_w : (c.2.2.2 10).2 = 512) (l11 : (c.2.2.2 11).2 = 200) : CAm (c.2.2.1 1 7) (c.2.2.1 1 8) c c := ⟨CP.of R.1.1 len_w, l11, R.2⟩
theorem RBw.caw {a b_w : Nat} {c c' m' : dc_M} (A_w : RAw c' m') (Q_w : CAm a b_w c c') : RBw c' m' := ⟨A_w, Q_w.2.2⟩
theorem RBw.kmw {c m_w c' m' : dc_M} (R : RBw c m_w) (A_w : RAw c' m') (K_w : KMw c c') : RBw c' m' := ⟨A_w, R.2.ofw (K_w.1 1 11 (by decide)) (fun b_w k_w b1 b2 => K_w.1 b_w k_w (by omega))⟩
theorem RBw.p0w {V : Int64} {c m_w c' m' : dc_M} {v_w v' : Int32} (ty_w : (c.2.2.2 3).1 = 1) (R : RBw c m_w) (f_w : d_X9_feed 1 V c = some (v_w, c')) (g_w : d_X10_feed 82 V m_w = some (v', m')) : v_w = v' ∧ RBw c' m' := by
  obtain ⟨-, -, r1_w, r2, -⟩ := fe_sim R.1.1.1.1 ty_w f_w g_w
  obtain ⟨e_w, A_w⟩ := RAw.p0w ty_w R.1 f_w g_w
  exact ⟨e_w, R.kmw A_w ⟨fun b_w k_w hb_w => r2 b_w k_w (by omega) (by omega), r1_w⟩⟩
theorem RBw.p1w {x_w : Int32} {c m_w c' m' : dc_M} {v_w v' : Int32} (R : RBw c m_w) (f_w : d_X9_end 1 x_w c = (v_w, c')) (g_w : d_X10_end 82 x_w m_w = (v', m')) : v_w = v' ∧ RBw c' m' := by
  obtain ⟨-, -, r1_w, r2, -⟩ := en_sim R.1.1.1.1 f_w g_w
  obtain ⟨e_w, A_w⟩ := RAw.p1w R.1 f_w g_w
  exact ⟨e_w, R.kmw A_w ⟨fun b_w k_w hb_w => r2 b_w k_w (by omega), r1_w⟩⟩
theorem RBw.p2w {c m_w c' m' : dc_M} {v_w v' : Int32} (R : RBw c m_w) (f_w : d_X9_text 1 c = some (v_w, c')) (g_w : d_X10_text 82 m_w = some (v', m')) : v_w = v' ∧ RBw c' m' := by
  obtain ⟨e_w, A_w⟩ := RAw.p2w R.1 f_w g_w
  refine ⟨e_w, A_w, ?_⟩
  have md := R.1.1.1.2.2
  unfold cs_md at md
  have h41 : c.2.2.1 1 8 = 41 ∨ c.2.2.1 1 8 = 52 := by omega
  unfold d_X9_text at f_w
  rw [show 1 + 1 = 2 from rfl] at f_w
  cases hz : d_X4_readInto 2 (c.2.2.1 1 8) c with
  | none => rw [hz] at f_w; cases f_w
  | some z_w =>
    rw [hz, Option.bind_some] at f_w
    have fi := fa_into hz
    by_cases z1 : ¬ z_w.1.toInt = 0
    · rw [if_pos z1, dc_let_eq] at f_w
      generalize hQ : d_X9_beginAnew 1 (dc_wr (dc_wr (dc_wi z_w.2 2 1 0) 1 7 ((dc_wi z_w.2 2 1 0).2.2.1 1 8)) 1 8 ((dc_wi z_w.2 2 1 0).2.2.1 1 7)) = Q_w at f_w
      have Q11 : Q_w.1 1 11 = 0 := by rw [← hQ]; rfl
      have hc_w : Q_w = c' := (Prod.mk.inj (Option.some.inj f_w)).2
      rw [hc_w] at Q11
      exact fun q_w => absurd Q11 q_w
    · rw [if_neg z1] at f_w
      have f_w : some ((-10 : Int32) - z_w.2.1 2 3, dc_wi z_w.2 2 1 0) = some (v_w, c') := f_w
      have hc_w := (Prod.mk.inj (Option.some.inj f_w)).2
      have ec : ∀ b_w k_w, b_w ≠ 2 → ¬ (c.2.2.1 1 8 ≤ b_w ∧ b_w ≤ c.2.2.1 1 8 + 10) → c'.1 b_w k_w = c.1 b_w k_w := fun b_w k_w h1 h2 => by
        rw [← hc_w]
        exact (wi_k (by omega)).trans (fi.2 b_w k_w h1 h2)
      exact R.2.ofw (ec 1 11 (by decide) (by omega)) (fun b_w k_w b1 b2 => ec b_w k_w (by omega) (by omega))
theorem RBw.p7w {c m_w c' m' : dc_M} {v_w v' : Int32} (len_w : (c.2.2.2 10).2 = 512) (l11 : (c.2.2.2 11).2 = 200) (R : RBw c m_w) (f_w : d_X9_states 1 c = some (v_w, c')) (g_w : d_X10_states 82 m_w = some (v', m')) : v_w = v' ∧ RBw c' m' := by
  obtain ⟨e_w, A_w⟩ := RAw.p7w len_w R.1 f_w g_w
  exact ⟨e_w, RBw.caw A_w (ca_X9_states (CAm.rbw R len_w l11) f_w)⟩
theorem RBw.p8w {c m_w c' m' : dc_M} {v_w v' : Int32} (len_w : (c.2.2.2 10).2 = 512) (l11 : (c.2.2.2 11).2 = 200) (hr : ∀ k_w, k_w < 16 → 0 ≤ (m_w.1 86 k_w).toInt ∧ (m_w.1 86 k_w).toInt ≤ 1) (R : RBw c m_w) (f_w : d_X9_right 1 c = some (v_w, c')) (g_w : d_X10_right 82 m_w = some (v', m')) : v_w = v' ∧ RBw c' m' := by
  obtain ⟨e_w, A_w⟩ := RAw.p8w len_w hr R.1 f_w g_w
  exact ⟨e_w, RBw.caw A_w (ca_X9_right (CAm.rbw R len_w l11) f_w)⟩
theorem RBw.p9w {x1 x2_w : Int32} {c m_w c' m' : dc_M} {v_w v' : Int32} (len_w : (c.2.2.2 10).2 = 512) (l11 : (c.2.2.2 11).2 = 200) (hr : ∀ k_w, k_w < 16 → 0 ≤ (m_w.1 86 k_w).toInt ∧ (m_w.1 86 k_w).toInt ≤ 1) (R : RBw c m_w) (f_w : d_X9_of 1 x1 x2_w c = some (v_w, c')) (g_w : d_X10_of 82 x1 x2_w m_w = some (v', m')) : v_w = v' ∧ RBw c' m' := by
  obtain ⟨e_w, A_w⟩ := RAw.p9w len_w hr R.1 f_w g_w
  exact ⟨e_w, RBw.caw A_w (ca_X9_of (CAm.rbw R len_w l11) f_w)⟩
theorem RBw.q10w {x1 : Int32} {c m_w c' m' : dc_M} {v_w v' : Int32} (len_w : (c.2.2.2 10).2 = 512) (l11 : (c.2.2.2 11).2 = 200) (R : RBw c m_w) (f_w : d_X9_quarrels 1 x1 c = some (v_w, c')) (g_w : d_X10_quarrels 82 x1 m_w = some (v', m')) : RBw c' m' := RBw.caw (RAw.q10w len_w R.1 f_w g_w) (ca_X9_quarrels (CAm.rbw R len_w l11) f_w)
theorem RBw.q11w {x1 : Int32} {c m_w c' m' : dc_M} {v_w v' : Int32} (len_w : (c.2.2.2 10).2 = 512) (l11 : (c.2.2.2 11).2 = 200) (R : RBw c m_w) (f_w : d_X9_back 1 x1 c = some (v_w, c')) (g_w : d_X10_back 82 x1 m_w = some (v', m')) : RBw c' m' := RBw.caw (RAw.q11w len_w R.1 f_w g_w) (ca_X9_back (CAm.rbw R len_w l11) f_w)
theorem RBw.q12w {x1 : Int32} {c m_w c' m' : dc_M} {v_w v' : Int32} (len_w : (c.2.2.2 10).2 = 512) (l11 : (c.2.2.2 11).2 = 200) (R : RBw c m_w) (f_w : d_X9_stuck 1 x1 c = some (v_w, c')) (g_w : d_X10_stuck 82 x1 m_w = some (v', m')) : RBw c' m' := RBw.caw (RAw.q12w len_w R.1 f_w g_w) (ca_X9_stuck (CAm.rbw R len_w l11) f_w)
theorem RBw.q13w {x1 x2_w : Int32} {c m_w c' m' : dc_M} {v_w v' : Int32} (len_w : (c.2.2.2 10).2 = 512) (l11 : (c.2.2.2 11).2 = 200) (R : RBw c m_w) (f_w : d_X9_aim 1 x1 x2_w c = some (v_w, c')) (g_w : d_X10_aim 82 x1 x2_w m_w = some (v', m')) : RBw c' m' := RBw.caw (RAw.q13w len_w R.1 f_w g_w) (ca_X9_aim (CAm.rbw R len_w l11) f_w)
theorem RBw.q14w {x1 x2_w : Int32} {c m_w c' m' : dc_M} {v_w v' : Int32} (len_w : (c.2.2.2 10).2 = 512) (l11 : (c.2.2.2 11).2 = 200) (R : RBw c m_w) (f_w : d_X9_makes 1 x1 x2_w c = some (v_w, c')) (g_w : d_X10_makes 82 x1 x2_w m_w = some (v', m')) : RBw c' m' := RBw.caw (RAw.q14w len_w R.1 f_w g_w) (ca_X9_makes (CAm.rbw R len_w l11) f_w)
theorem RBw.q15w {x1 x2_w x3 x4_w x5_w : Int32} {c m_w c' m' : dc_M} {v_w v' : Int32} (len_w : (c.2.2.2 10).2 = 512) (l11 : (c.2.2.2 11).2 = 200) (R : RBw c m_w) (f_w : d_X9_judge 1 x1 x2_w x3 x4_w x5_w c = some (v_w, c')) (g_w : d_X10_judge 82 x1 x2_w x3 x4_w x5_w m_w = some (v', m')) : RBw c' m' := RBw.caw (RAw.q15w len_w R.1 f_w g_w) (ca_X9_judge (CAm.rbw R len_w l11) f_w)
theorem RBw.q16w {c m_w c' m' : dc_M} {v_w v' : Int32} (len_w : (c.2.2.2 10).2 = 512) (l11 : (c.2.2.2 11).2 = 200) (R : RBw c m_w) (f_w : d_X9_cost 1 c = some (v_w, c')) (g_w : d_X10_cost 82 m_w = some (v', m')) : RBw c' m' := RBw.caw (RAw.q16w len_w R.1 f_w g_w) (ca_X9_cost (CAm.rbw R len_w l11) f_w)
theorem RBw.q17w {x1 x2_w : Int32} {c m_w c' m' : dc_M} {v_w v' : Int32} (len_w : (c.2.2.2 10).2 = 512) (l11 : (c.2.2.2 11).2 = 200) (R : RBw c m_w) (f_w : d_X9_would 1 x1 x2_w c = some (v_w, c')) (g_w : d_X10_would 82 x1 x2_w m_w = some (v', m')) : RBw c' m' := RBw.caw (RAw.q17w len_w R.1 f_w g_w) (ca_X9_would (CAm.rbw R len_w l11) f_w)
theorem RBw.q19w {x1 : Int32} {c m_w c' m' : dc_M} {v_w v' : Int32} (len_w : (c.2.2.2 10).2 = 512) (l11 : (c.2.2.2 11).2 = 200) (R : RBw c m_w) (f_w : d_X9_cures 1 x1 c = some (v_w, c')) (g_w : d_X10_cures 82 x1 m_w = some (v', m')) : RBw c' m' := RBw.caw (RAw.q19 len_w R.1 f_w g_w) (ca_X9_cures (CAm.rbw R len_w l11) f_w)
theorem RBw.p18 {x1 x2_w : Int32} {c m_w c' m' : dc_M} {v_w v' : Int32} (len_w : (c.2.2.2 10).2 = 512) (l11 : (c.2.2.2 11).2 = 200) (hr : ∀ k_w, k_w < 16 → 0 ≤ (m_w.1 86 k_w).toInt ∧ (m_w.1 86 k_w).toInt ≤ 1) (R : RBw c m_w) (f_w : d_X9_cure 1 x1 x2_w c = some (v_w, c')) (g_w : d_X10_cure 82 x1 x2_w m_w = some (v', m')) : v_w = v' ∧ RBw c' m' := by
  obtain ⟨e_w, A_w⟩ := RAw.p18 len_w hr R.1 f_w g_w
  refine ⟨e_w, A_w, ?_⟩
  unfold d_X9_cure at f_w
  cases hq : d_X9_refusedCure 1 x1 x2_w c with
  | none => rw [hq] at f_w; cases f_w
  | some q_w =>
    rw [hq, Option.bind_some] at f_w
    by_cases z_w : q_w.1.toInt = 0
    · rw [if_pos z_w] at f_w
      cases hw : d_X3_addWireBehind (q_w.2.2.2.1 1 7) x1 x2_w q_w.2 with
      | none => rw [hw] at f_w; cases f_w
      | some w =>
        rw [hw, Option.bind_some, dc_let_eq] at f_w
        have Q11 : (d_X9_beginAnew 1 w).1 1 11 = 0 := rfl
        have hc_w : d_X9_beginAnew 1 w = c' := (Prod.mk.inj (Option.some.inj f_w)).2
        rw [hc_w] at Q11
        exact fun q_w => absurd Q11 q_w
    · rw [if_neg z_w] at f_w
      have f_w := (Prod.mk.inj (Option.some.inj f_w)).2
      rw [← f_w]
      exact (ca_X9_refusedCure (CAm.rbw R len_w l11) hq).2.2
theorem RBw.p20 {x1 x2_w : Int32} {c m_w c' m' : dc_M} {v_w v' : Int32} (R : RBw c m_w) (f_w : d_X9_delay 1 x1 x2_w c = (v_w, c')) (g_w : d_X10_delay 82 x1 x2_w m_w = (v', m')) : v_w = v' ∧ RBw c' m' := by
  have ha_w := md41 R.1.1.1.2.2
  obtain ⟨e_w, A_w⟩ := RAw.p20 R.1 f_w g_w
  obtain ⟨d1_w, d2_w⟩ := dl_1 f_w
  have dc := dl_c f_w
  exact ⟨e_w, A_w, R.2.ofw (d1_w 11 (by decide)) (fun b_w k_w b1 b2 => dc b_w k_w (by omega) (by omega))⟩
theorem RBw.p23 {x1 : Int32} {c m_w c' m' : dc_M} {v_w v' : Int32} (R : RBw c m_w) (f_w : d_X9_come 1 x1 c = (v_w, c')) (g_w : d_X10_come 82 x1 m_w = (v', m')) : v_w = v' ∧ RBw c' m' := by
  obtain ⟨e_w, A_w⟩ := RAw.p23 R.1 f_w g_w
  exact ⟨e_w, R.kmw A_w (km_come f_w)⟩
theorem RBw.p24 {c m_w c' m' : dc_M} {v_w v' : Int32} (R : RBw c m_w) (f_w : d_X9_undo 1 c = (v_w, c')) (g_w : d_X10_undo 82 m_w = (v', m')) : v_w = v' ∧ RBw c' m' := by
  obtain ⟨e_w, A_w⟩ := RAw.p24 R.1 f_w g_w
  exact ⟨e_w, R.kmw A_w (km_undo f_w)⟩
theorem RBw.p26 {x1 x2_w x3 : Int32} {c m_w c' m' : dc_M} {v_w v' : Int32} (h40 : ∀ j, j < 4 → c.2.2.1 40 j = 74 + 2 * j) (hl : ∀ j, j < 4 → (c.2.2.2 (75 + 2 * j)).2 = 64) (R : RBw c m_w) (f_w : d_X9_sheet 1 x1 x2_w x3 c = some (v_w, c')) (g_w : d_X10_sheet 82 x1 x2_w x3 m_w = some (v', m')) : v_w = v' ∧ RBw c' m' := by
  obtain ⟨e_w, A_w⟩ := RAw.p26 h40 hl R.1 f_w g_w
  exact ⟨e_w, R.kmw A_w (km_sheet h40 hl f_w)⟩
theorem RBw.p27 {x1 x2_w x3 : Int32} {c m_w c' m' : dc_M} {v_w v' : Int32} (h40 : ∀ j, j < 4 → c.2.2.1 40 j = 74 + 2 * j) (R : RBw c m_w) (f_w : d_X9_lay 1 x1 x2_w x3 c = (v_w, c')) (g_w : d_X10_lay 82 x1 x2_w x3 m_w = (v', m')) : v_w = v' ∧ RBw c' m' := by
  obtain ⟨e_w, A_w⟩ := RAw.p27 h40 R.1 f_w g_w
  exact ⟨e_w, R.kmw A_w (km_lay h40 f_w)⟩
/-- stuck: both sides answer alike -/
theorem RBw.p12w {x1 : Int32} {c m_w c' m' : dc_M} {v_w v' : Int32} (len_w : (c.2.2.2 10).2 = 512) (l11 : (c.2.2.2 11).2 = 200) (R : RBw c m_w) (f_w : d_X9_stuck 1 x1 c = some (v_w, c')) (g_w : d_X10_stuck 82 x1 m_w = some (v', m')) : v_w = v' ∧ RBw c' m' := by
  refine ⟨?_, RBw.q12w len_w l11 R f_w g_w⟩
  have ha_w := md41 R.1.1.1.2.2
  unfold d_X9_stuck at f_w
  unfold d_X10_stuck at g_w
  rw [di_in, di_il, show (0 : Int64).toInt = 0 from rfl, show (2 : Int64).toInt = 2 from rfl] at g_w
  by_cases c1_w : 0 ≤ x1.toInt ∧ x1.toInt ≤ 2
  · rw [if_neg (show ¬ x1.toInt < 0 by omega), if_pos c1_w.2] at f_w
    rw [if_pos (fun q_w => (di_ine.mp q_w) c1_w)] at g_w
    cases hq : d_X9_explore 1 c with
    | none => rw [hq] at f_w; cases f_w
    | some q_w =>
      cases hy : d_X10_layStates 82 m_w with
      | none => rw [hy] at g_w; cases g_w
      | some y =>
        rw [hq, Option.bind_some, show 1 + 3 = 4 from rfl] at f_w
        rw [hy, Option.bind_some] at g_w
        obtain ⟨k1_w, k2_w, k3_w, k4_w⟩ := ck_ex ha_w rfl len_w R.1.1.2.2 hq
        have a7 : q_w.2.2.1 1 7 = c.2.2.1 1 7 := by rw [k4_w]
        have N_w : NR (c.2.2.1 1 7) q_w m_w := NR.eq R.1.1.2.1 (fun i_w hi_w => funext (fun k_w => k3_w _ k_w (by omega) (by omega))) (fun _ _ => rfl) (fun _ _ _ => rfl)
        obtain ⟨fM_w, D_w⟩ := ck_sq ha_w a7 k1_w k2_w N_w hy
        have Ny : NR (c.2.2.1 1 7) q_w y.2 := NR.eq N_w (fun _ _ => rfl) (fun k_w hk => fM_w.1 82 k_w (by omega) (by omega)) (fun b_w b1 b2 => funext (fun k_w => fM_w.1 b_w k_w (by omega) (by omega)))
        have Q1_w := ca_X9_explore (CAm.rbw R len_w l11) hq
        rw [a7] at f_w
        rcases D_w with ⟨y1, z1, n_w, ⟨n1_w, n2_w⟩, hn, hm_w, hb_w, RR⟩ | ⟨y1, z1⟩
        · rw [if_pos (show (q_w.1 4 1).toInt = 0 by rw [z1]; rfl)] at f_w
          rw [if_pos (show y.1.toInt = 1 by rw [y1]; rfl)] at g_w
          obtain ⟨s0_w, s1_w, s2_w⟩ := stu_cmp (x1 := x1) (w := (v', m')) Ny n1_w n2_w hn hm_w Q1_w.2.2 k2_w Q1_w.2.1 hb_w RR g_w
          by_cases d0_w : x1.toInt = 0
          · rw [if_pos d0_w] at f_w
            cases he : d_X7_ends 4 q_w with
            | none => rw [he] at f_w; cases f_w
            | some e_w =>
              rw [he, Option.bind_some] at f_w
              have f_w := (Prod.mk.inj (Option.some.inj f_w)).1
              rw [← f_w]
              exact s0_w d0_w _ he
          · rw [if_neg d0_w] at f_w
            by_cases d1_w : x1.toInt = 1
            · rw [if_pos d1_w] at f_w
              cases ht : d_X7_astray 4 q_w with
              | none => rw [ht] at f_w; cases f_w
              | some t_w =>
                rw [ht, Option.bind_some] at f_w
                have f_w := (Prod.mk.inj (Option.some.inj f_w)).1
                rw [← f_w]
                exact s1_w d1_w _ ht
            · rw [if_neg d1_w] at f_w
              have f_w := (Prod.mk.inj (Option.some.inj f_w)).1
              rw [← f_w]
              exact s2_w d0_w d1_w
        · rw [if_neg (show ¬ (q_w.1 4 1).toInt = 0 from fun r_w => z1 (Int32.toInt_inj.mp r_w))] at f_w
          rw [if_neg (show ¬ y.1.toInt = 1 from fun r_w => y1 (Int32.toInt_inj.mp (r_w.trans rfl)))] at g_w
          cases f_w
          cases g_w
          rfl
  · rw [if_neg (fun q_w => q_w (di_ine.mpr c1_w))] at g_w
    by_cases d0_w : x1.toInt < 0
    · rw [if_pos d0_w] at f_w
      cases f_w
      cases g_w
      rfl
    · rw [if_neg d0_w, if_neg (show ¬ x1.toInt ≤ 2 by omega)] at f_w
      cases f_w
      cases g_w
      rfl
