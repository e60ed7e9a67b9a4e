/-! ===== the run, the sheets, quarrels, sums, and solved wires ===== -/
def RSw (c m_w : dc_M) : Prop := RQw c m_w ∧ SVw c
theorem SVw.kmw {c c' : dc_M} (R : SVw c) (K_w : KMw c c') : SVw c' := R.eqw (K_w.1 1 13 (by decide)) (K_w.1 15 6 (by decide)) (K_w.1 15 7 (by decide)) (K_w.1 15 8 (by decide)) (fun k_w => by rw [K_w.2]; exact ⟨rfl, rfl⟩) (fun k_w => K_w.1 19 k_w (by omega))
theorem RSw.sm (c m_w m' : dc_M) (v_w : vs 82 120 m_w m') (R : RSw c m_w) : RSw c m' := ⟨RQw.sm c m_w m' v_w R.1, R.2⟩
theorem RSw.sc (c c' m_w : dc_M) (v_w : vs 1 82 c c') (R : RSw c m_w) : RSw c' m_w := by
  have w_w : ∀ b, 1 ≤ b → b < 82 → c'.1 b = c.1 b := fun b h1 h2 => (v_w b h1 h2).1
  exact ⟨RQw.sc c c' m_w v_w R.1, R.2.eqw (by rw [w_w 1 (by decide) (by decide)]) (by rw [w_w 15 (by decide) (by decide)]) (by rw [w_w 15 (by decide) (by decide)]) (by rw [w_w 15 (by decide) (by decide)]) (fun k_w => by rw [(v_w 16 (by decide) (by decide)).2.1, (v_w 17 (by decide) (by decide)).2.1]; exact ⟨rfl, rfl⟩) (fun k_w => by rw [w_w 19 (by decide) (by decide)])⟩
theorem RSw.md (c m_w : dc_M) (R : RSw c m_w) : cs_md (c.2.2.1 1 7) (c.2.2.1 1 8) := RQw.md c m_w R.1
def RS_c (x_w : Nat) : Bool := decide (x_w / 128 < 19) || decide (19 < x_w / 128)
section RSw
variable {z_w L_w : Nat} {xs : Nat → Int32} {h_w h' : ab_H}
theorem RSw.fr {mo : List Nat} (hD : (((((Rt_D.all (fun k_w => !mo.contains k_w) && RN_D.all (fun k_w => !mo.contains k_w)) && mo.all RN_c) && (RA_D.all (fun k_w => !mo.contains k_w) && mo.all RA_c)) && (RQ_D.all (fun k_w => !mo.contains k_w) && mo.all RQ_c)) && mo.all RS_c) = true) (hh : sx_h sx_SP z_w L_w xs h_w) (hh' : sx_h sx_SP z_w L_w xs h') (hfr : sx_fr mo h_w h') (R : GR RSw h_w) : GR RSw h' := by
  rw [Bool.and_eq_true] at hD
  obtain ⟨hA, hS_w⟩ := hD
  have t_w := RQw.fr hA hh hh' hfr ⟨R.1.1, R.2⟩
  rw [Bool.and_eq_true] at hA
  obtain ⟨-, hB_w⟩ := hA
  rw [Bool.and_eq_true] at hB_w
  obtain ⟨hB_w, hC⟩ := hB_w
  have f13 : (dc_vw h').1 1 13 = (dc_vw h_w).1 1 13 := gd_fi (c := 1) hfr hh hh' rfl (D_c hB_w (by decide)) (by decide)
  have qc : ∀ b k_w, b = 12 ∨ (15 ≤ b ∧ b ≤ 17) → (dc_vw h').1 b k_w = (dc_vw h_w).1 b k_w ∧ (dc_vw h').2.1 b k_w = (dc_vw h_w).2.1 b k_w := fun b k_w hb_w => by
    have e_w := rq_cell hC hfr hh hh' hb_w
    refine ⟨?_, ?_⟩
    · show dc_vi (h'.2.2 b) k_w = dc_vi (h_w.2.2 b) k_w
      rw [e_w]
    · show dc_vl (h'.2.2 b) k_w = dc_vl (h_w.2.2 b) k_w
      rw [e_w]
  have e19_w : h'.2.2 19 = h_w.2.2 19 := fr_cell hfr hh hh' (b := 19) (by omega) (by omega) (List.all_eq_true.mpr (fun x_w hx => by
    have q_w := List.all_eq_true.mp hS_w x_w hx
    unfold RS_c at q_w
    simp only [Bool.or_eq_true, decide_eq_true_eq] at q_w
    rw [decide_eq_false (by omega)]
    rfl))
  exact ⟨⟨t_w.1, R.1.2.eqw f13 (qc 15 6 (by omega)).1 (qc 15 7 (by omega)).1 (qc 15 8 (by omega)).1 (fun k_w => ⟨(qc 16 k_w (by omega)).2, (qc 17 k_w (by omega)).2⟩) (fun k_w => by show dc_vi (h'.2.2 19) k_w = dc_vi (h_w.2.2 19) k_w; rw [e19_w])⟩, t_w.2⟩
end RSw
theorem SVm.rsw {c m_w : dc_M} (R : RSw c m_w) (len_w : (c.2.2.2 10).2 = 512) : SVm (c.2.2.1 1 7) (c.2.2.1 1 8) c c := ⟨CP.of R.1.1.1 len_w, R.2⟩
theorem RSw.p0w {V : Int64} {c m_w c' m' : dc_M} {v_w v' : Int32} (ty_w : (c.2.2.2 3).1 = 1) (R : RSw c m_w) (f_w : d_X9_feed 1 V c = some (v_w, c')) (g_w : d_X10_feed 82 V m_w = some (v', m')) : v_w = v' ∧ RSw c' m' := by
  obtain ⟨-, -, r1_w, r2, -⟩ := fe_sim R.1.1.1.1.1 ty_w f_w g_w
  obtain ⟨e_w, A_w⟩ := RQw.p0w ty_w R.1 f_w g_w
  exact ⟨e_w, A_w, R.2.kmw ⟨fun b k_w hb_w => r2 b k_w (by omega) (by omega), r1_w⟩⟩
theorem RSw.p1w {x_w : Int32} {c m_w c' m' : dc_M} {v_w v' : Int32} (R : RSw c m_w) (f_w : d_X9_end 1 x_w c = (v_w, c')) (g_w : d_X10_end 82 x_w m_w = (v', m')) : v_w = v' ∧ RSw c' m' := by
  obtain ⟨-, -, r1_w, r2, -⟩ := en_sim R.1.1.1.1.1 f_w g_w
  obtain ⟨e_w, A_w⟩ := RQw.p1w R.1 f_w g_w
  exact ⟨e_w, A_w, R.2.kmw ⟨fun b k_w hb_w => r2 b k_w (by omega), r1_w⟩⟩
theorem RSw.p2w {c m_w c' m' : dc_M} {v_w v' : Int32} (R : RSw c m_w) (f_w : d_X9_text 1 c = some (v_w, c')) (g_w : d_X10_text 82 m_w = some (v', m')) : v_w = v' ∧ RSw c' m' := by
  obtain ⟨e_w, A_w⟩ := RQw.p2w R.1 f_w g_w
  refine ⟨e_w, A_w, ?_⟩
  have md := R.1.1.1.1.2.2
  unfold cs_md at md
  have h41 : c.2.2.1 1 8 = 41 ∨ c.2.2.1 1 8 = 52 := by omega
  unfold d_X9_text at f_w
  rw [show 1 + 1 = 2 from rfl] at f_w
  cases hz : d_X4_readInto 2 (c.2.2.1 1 8) c with
  | none => rw [hz] at f_w; cases f_w
  | some z_w =>
    rw [hz, Option.bind_some] at f_w
    have rr := rr_into hz
    have ql : z_w.2.2.1 = c.2.1 := by rw [rr]; rfl
    have fi := fa_into hz
    by_cases z1 : ¬ z_w.1.toInt = 0
    · rw [if_pos z1, dc_let_eq] at f_w
      generalize hQ : d_X9_beginAnew 1 (dc_wr (dc_wr (dc_wi z_w.2 2 1 0) 1 7 ((dc_wi z_w.2 2 1 0).2.2.1 1 8)) 1 8 ((dc_wi z_w.2 2 1 0).2.2.1 1 7)) = Q at f_w
      have Q13 : Q.1 1 13 = 0 := by rw [← hQ]; rfl
      have hc_w : Q = c' := (Prod.mk.inj (Option.some.inj f_w)).2
      rw [hc_w] at Q13
      exact fun q_w => absurd Q13 q_w
    · rw [if_neg z1] at f_w
      have f_w : some ((-10 : Int32) - z_w.2.1 2 3, dc_wi z_w.2 2 1 0) = some (v_w, c') := f_w
      have hc_w := (Prod.mk.inj (Option.some.inj f_w)).2
      have ec : ∀ b k_w, b ≠ 2 → ¬ (c.2.2.1 1 8 ≤ b ∧ b ≤ c.2.2.1 1 8 + 10) → c'.1 b k_w = c.1 b k_w := fun b k_w h1 h2 => by
        rw [← hc_w]
        exact (wi_k (by omega)).trans (fi.2 b k_w h1 h2)
      have el : c'.2.1 = c.2.1 := by rw [← hc_w]; exact ql
      exact R.2.eqw (ec 1 13 (by decide) (by omega)) (ec 15 6 (by decide) (by omega)) (ec 15 7 (by decide) (by omega)) (ec 15 8 (by decide) (by omega)) (fun k_w => by rw [el]; exact ⟨rfl, rfl⟩) (fun k_w => ec 19 k_w (by decide) (by omega))
theorem RSw.p7w {c m_w c' m' : dc_M} {v_w v' : Int32} (len_w : (c.2.2.2 10).2 = 512) (l13 : (c.2.2.2 13).2 = 64) (R : RSw c m_w) (f_w : d_X9_states 1 c = some (v_w, c')) (g_w : d_X10_states 82 m_w = some (v', m')) : v_w = v' ∧ RSw c' m' := by
  obtain ⟨e_w, A_w⟩ := RQw.p7w len_w l13 R.1 f_w g_w
  exact ⟨e_w, A_w, (sv_X9_states (SVm.rsw R len_w) f_w).2⟩
theorem RSw.p8w {c m_w c' m' : dc_M} {v_w v' : Int32} (len_w : (c.2.2.2 10).2 = 512) (l13 : (c.2.2.2 13).2 = 64) (hr : ∀ k_w, k_w < 16 → 0 ≤ (m_w.1 86 k_w).toInt ∧ (m_w.1 86 k_w).toInt ≤ 1) (R : RSw c m_w) (f_w : d_X9_right 1 c = some (v_w, c')) (g_w : d_X10_right 82 m_w = some (v', m')) : v_w = v' ∧ RSw c' m' := by
  obtain ⟨e_w, A_w⟩ := RQw.p8w len_w l13 hr R.1 f_w g_w
  exact ⟨e_w, A_w, (sv_X9_right (SVm.rsw R len_w) f_w).2⟩
theorem RSw.p9w {x1_w x2_w : Int32} {c m_w c' m' : dc_M} {v_w v' : Int32} (len_w : (c.2.2.2 10).2 = 512) (l13 : (c.2.2.2 13).2 = 64) (hr : ∀ k_w, k_w < 16 → 0 ≤ (m_w.1 86 k_w).toInt ∧ (m_w.1 86 k_w).toInt ≤ 1) (R : RSw c m_w) (f_w : d_X9_of 1 x1_w x2_w c = some (v_w, c')) (g_w : d_X10_of 82 x1_w x2_w m_w = some (v', m')) : v_w = v' ∧ RSw c' m' := by
  obtain ⟨e_w, A_w⟩ := RQw.p9w len_w l13 hr R.1 f_w g_w
  exact ⟨e_w, A_w, (sv_X9_of (SVm.rsw R len_w) f_w).2⟩
theorem RSw.q10w {x1_w : Int32} {c m_w c' m' : dc_M} {v_w v' : Int32} (len_w : (c.2.2.2 10).2 = 512) (l13 : (c.2.2.2 13).2 = 64) (R : RSw c m_w) (f_w : d_X9_quarrels 1 x1_w c = some (v_w, c')) (g_w : d_X10_quarrels 82 x1_w m_w = some (v', m')) : RSw c' m' := ⟨RQw.q10w len_w l13 R.1 f_w g_w, (sv_X9_quarrels (SVm.rsw R len_w) f_w).2⟩
theorem RSw.q11w {x1_w : Int32} {c m_w c' m' : dc_M} {v_w v' : Int32} (len_w : (c.2.2.2 10).2 = 512) (l13 : (c.2.2.2 13).2 = 64) (R : RSw c m_w) (f_w : d_X9_back 1 x1_w c = some (v_w, c')) (g_w : d_X10_back 82 x1_w m_w = some (v', m')) : RSw c' m' := ⟨RQw.q11w len_w l13 R.1 f_w g_w, (sv_X9_back (SVm.rsw R len_w) f_w).2⟩
theorem RSw.q12w {x1_w : Int32} {c m_w c' m' : dc_M} {v_w v' : Int32} (len_w : (c.2.2.2 10).2 = 512) (l13 : (c.2.2.2 13).2 = 64) (R : RSw c m_w) (f_w : d_X9_stuck 1 x1_w c = some (v_w, c')) (g_w : d_X10_stuck 82 x1_w m_w = some (v', m')) : RSw c' m' := ⟨RQw.q12w len_w l13 R.1 f_w g_w, (sv_X9_stuck (SVm.rsw R len_w) f_w).2⟩
theorem RSw.q13w {x1_w x2_w : Int32} {c m_w c' m' : dc_M} {v_w v' : Int32} (len_w : (c.2.2.2 10).2 = 512) (l13 : (c.2.2.2 13).2 = 64) (R : RSw c m_w) (f_w : d_X9_aim 1 x1_w x2_w c = some (v_w, c')) (g_w : d_X10_aim 82 x1_w x2_w m_w = some (v', m')) : RSw c' m' := ⟨RQw.q13w len_w l13 R.1 f_w g_w, (sv_X9_aim (SVm.rsw R len_w) f_w).2⟩
theorem RSw.q15w {x1_w x2_w x3 x4_w x5_w : Int32} {c m_w c' m' : dc_M} {v_w v' : Int32} (len_w : (c.2.2.2 10).2 = 512) (l13 : (c.2.2.2 13).2 = 64) (R : RSw c m_w) (f_w : d_X9_judge 1 x1_w x2_w x3 x4_w x5_w c = some (v_w, c')) (g_w : d_X10_judge 82 x1_w x2_w x3 x4_w x5_w m_w = some (v', m')) : RSw c' m' := ⟨RQw.q15w len_w l13 R.1 f_w g_w, (sv_X9_judge (SVm.rsw R len_w) f_w).2⟩
theorem RSw.q17w {x1_w x2_w : Int32} {c m_w c' m' : dc_M} {v_w v' : Int32} (len_w : (c.2.2.2 10).2 = 512) (l13 : (c.2.2.2 13).2 = 64) (R : RSw c m_w) (f_w : d_X9_would 1 x1_w x2_w c = some (v_w, c')) (g_w : d_X10_would 82 x1_w x2_w m_w = some (v', m')) : RSw c' m' := ⟨RQw.q17w len_w l13 R.1 f_w g_w, (sv_X9_would (SVm.rsw R len_w) f_w).2⟩
theorem RSw.q19w {x1_w : Int32} {c m_w c' m' : dc_M} {v_w v' : Int32} (len_w : (c.2.2.2 10).2 = 512) (l13 : (c.2.2.2 13).2 = 64) (R : RSw c m_w) (f_w : d_X9_cures 1 x1_w c = some (v_w, c')) (g_w : d_X10_cures 82 x1_w m_w = some (v', m')) : RSw c' m' := ⟨RQw.q19w len_w l13 R.1 f_w g_w, (sv_X9_cures (SVm.rsw R len_w) f_w).2⟩
theorem RSw.p18 {x1_w x2_w : Int32} {c m_w c' m' : dc_M} {v_w v' : Int32} (len_w : (c.2.2.2 10).2 = 512) (l13 : (c.2.2.2 13).2 = 64) (hr : ∀ k_w, k_w < 16 → 0 ≤ (m_w.1 86 k_w).toInt ∧ (m_w.1 86 k_w).toInt ≤ 1) (R : RSw c m_w) (f_w : d_X9_cure 1 x1_w x2_w c = some (v_w, c')) (g_w : d_X10_cure 82 x1_w x2_w m_w = some (v', m')) : v_w = v' ∧ RSw c' m' := by
  obtain ⟨e_w, A_w⟩ := RQw.p18 len_w l13 hr R.1 f_w g_w
  refine ⟨e_w, A_w, ?_⟩
  unfold d_X9_cure at f_w
  obtain ⟨q_w, hq, f_w⟩ := Option.bind_eq_some_iff.mp f_w
  by_cases z_w : q_w.1.toInt = 0
  · rw [if_pos z_w] at f_w
    obtain ⟨w_w, hw, f_w⟩ := Option.bind_eq_some_iff.mp f_w
    rw [dc_let_eq] at f_w
    have hc_w := (Prod.mk.inj (Option.some.inj f_w)).2
    rw [← hc_w]
    exact fun g_w => absurd rfl g_w
  · rw [if_neg z_w] at f_w
    have hc_w := (Prod.mk.inj (Option.some.inj f_w)).2
    rw [← hc_w]
    exact (sv_X9_refusedCure (SVm.rsw R len_w) hq).2
theorem RSw.p20 {x1_w x2_w : Int32} {c m_w c' m' : dc_M} {v_w v' : Int32} (R : RSw c m_w) (f_w : d_X9_delay 1 x1_w x2_w c = (v_w, c')) (g_w : d_X10_delay 82 x1_w x2_w m_w = (v', m')) : v_w = v' ∧ RSw c' m' := by
  have ha_w := md41 R.1.1.1.1.2.2
  obtain ⟨e_w, A_w⟩ := RQw.p20 R.1 f_w g_w
  obtain ⟨d1_w, d2_w⟩ := dl_1 f_w
  have dc := dl_c f_w
  exact ⟨e_w, A_w, R.2.eqw (d1_w 13 (by decide)) (dc 15 6 (by decide) (by omega)) (dc 15 7 (by decide) (by omega)) (dc 15 8 (by decide) (by omega)) (fun k_w => by rw [d2_w]; exact ⟨rfl, rfl⟩) (fun k_w => dc 19 k_w (by decide) (by omega))⟩
theorem RSw.p23 {x1_w : Int32} {c m_w c' m' : dc_M} {v_w v' : Int32} (R : RSw c m_w) (f_w : d_X9_come 1 x1_w c = (v_w, c')) (g_w : d_X10_come 82 x1_w m_w = (v', m')) : v_w = v' ∧ RSw c' m' := by
  obtain ⟨e_w, A_w⟩ := RQw.p23 R.1 f_w g_w
  exact ⟨e_w, A_w, R.2.kmw (km_come f_w)⟩
theorem RSw.p24 {c m_w c' m' : dc_M} {v_w v' : Int32} (R : RSw c m_w) (f_w : d_X9_undo 1 c = (v_w, c')) (g_w : d_X10_undo 82 m_w = (v', m')) : v_w = v' ∧ RSw c' m' := by
  obtain ⟨e_w, A_w⟩ := RQw.p24 R.1 f_w g_w
  exact ⟨e_w, A_w, R.2.kmw (km_undo f_w)⟩
theorem RSw.p26 {x1_w x2_w x3 : Int32} {c m_w c' m' : dc_M} {v_w v' : Int32} (h40 : ∀ j, j < 4 → c.2.2.1 40 j = 74 + 2 * j) (hl : ∀ j, j < 4 → (c.2.2.2 (75 + 2 * j)).2 = 64) (R : RSw c m_w) (f_w : d_X9_sheet 1 x1_w x2_w x3 c = some (v_w, c')) (g_w : d_X10_sheet 82 x1_w x2_w x3 m_w = some (v', m')) : v_w = v' ∧ RSw c' m' := by
  obtain ⟨e_w, A_w⟩ := RQw.p26 h40 hl R.1 f_w g_w
  exact ⟨e_w, A_w, R.2.kmw (km_sheet h40 hl f_w)⟩
theorem RSw.p27 {x1_w x2_w x3 : Int32} {c m_w c' m' : dc_M} {v_w v' : Int32} (h40 : ∀ j, j < 4 → c.2.2.1 40 j = 74 + 2 * j) (R : RSw c m_w) (f_w : d_X9_lay 1 x1_w x2_w x3 c = (v_w, c')) (g_w : d_X10_lay 82 x1_w x2_w x3 m_w = (v', m')) : v_w = v' ∧ RSw c' m' := by
  obtain ⟨e_w, A_w⟩ := RQw.p27 h40 R.1 f_w g_w
  exact ⟨e_w, A_w, R.2.kmw (km_lay h40 f_w)⟩
/-! makes and cost solve wires -/
theorem ism_w {a_w : Nat} {x_w : Int32} {z_w : dc_M} (n6_w : (z_w.1 a_w 0).toInt ≤ 6) (h_w : ¬ (d_X3_isMade a_w x_w z_w).toInt = 0) : ∃ w_w : Nat, w_w < 6 ∧ (w_w : Int) < (z_w.1 a_w 0).toInt ∧ x_w = Int32.ofNat w_w := by
  have hx : 0 ≤ x_w.toInt ∧ x_w.toInt < (z_w.1 a_w 0).toInt := Classical.not_not.mp (fun q_w => h_w (by
    unfold d_X3_isMade
    rw [if_pos (hw_0.mpr q_w)]
    rfl))
  refine ⟨x_w.toInt.toNat, by omega, by omega, Int32.toInt_inj.mp ?_⟩
  rw [mk_i (by omega)]
  omega
theorem sv_X9_makes_b28 {a_w b : Nat} {x1_w x2_w : Int32} {c0_w z_w : dc_M} {e_w : Int32 × dc_M} (h_w : SVm a_w b c0_w z_w) (hx : ∃ w_w : Nat, w_w < 6 ∧ x1_w = Int32.ofNat w_w) (q_w : d_X9_makes_b28 1 x1_w x2_w z_w = some e_w) : SVw e_w.2 := by
  obtain ⟨w_w, w1_w, w2_w⟩ := hx
  unfold d_X9_makes_b28 at q_w
  obtain ⟨y_w, hy, q_w⟩ := Option.bind_eq_some_iff.mp q_w
  have K_w := sv_X9_canBeMade h_w hy
  by_cases c : ¬ y_w.1.toInt = 0
  · rw [if_pos c] at q_w
    obtain ⟨u_w, hu, q_w⟩ := Option.bind_eq_some_iff.mp q_w
    rw [w2_w] at hu
    have S_w := svs_w w1_w K_w.2 hu
    split at q_w
    · have q_w := Option.some.inj q_w
      rw [← q_w]; exact S_w
    · split at q_w
      · have q_w := Option.some.inj q_w
        rw [← q_w]; exact S_w
      · have q_w := Option.some.inj q_w
        rw [← q_w]; exact S_w
  · rw [if_neg c] at q_w
    have q_w := Option.some.inj q_w
    rw [← q_w]; exact K_w.2
theorem RSw.q14w {x1_w x2_w : Int32} {c m_w c' m' : dc_M} {v_w v' : Int32} (len_w : (c.2.2.2 10).2 = 512) (l13 : (c.2.2.2 13).2 = 64) (R : RSw c m_w) (f_w : d_X9_makes 1 x1_w x2_w c = some (v_w, c')) (g_w : d_X10_makes 82 x1_w x2_w m_w = some (v', m')) : RSw c' m' := by
  refine ⟨RQw.q14w len_w l13 R.1 f_w g_w, ?_⟩
  have n6_w : (c.1 (c.2.2.1 1 7) 0).toInt ≤ 6 := R.1.1.1.2.1.1.2.1.2
  have same_w : c = c' → SVw c' := fun e_w => by rw [← e_w]; exact R.2
  unfold d_X9_makes at f_w
  by_cases c0_w : (d_X3_isMade (c.2.2.1 1 7) x1_w c).toInt = 0
  · rw [if_pos c0_w] at f_w
    exact same_w (Prod.mk.inj (Option.some.inj f_w)).2
  · rw [if_neg c0_w] at f_w
    obtain ⟨w_w, w1_w, -, w2_w⟩ := ism_w n6_w c0_w
    split at f_w
    · exact same_w (Prod.mk.inj (Option.some.inj f_w)).2
    · split at f_w
      · exact sv_X9_makes_b28 (SVm.rsw R len_w) ⟨w_w, w1_w, w2_w⟩ f_w
      · split at f_w
        · exact sv_X9_makes_b28 (SVm.rsw R len_w) ⟨w_w, w1_w, w2_w⟩ f_w
        · exact same_w (Prod.mk.inj (Option.some.inj f_w)).2
theorem RSw.q16w {c m_w c' m' : dc_M} {v_w v' : Int32} (len_w : (c.2.2.2 10).2 = 512) (l13 : (c.2.2.2 13).2 = 64) (R : RSw c m_w) (f_w : d_X9_cost 1 c = some (v_w, c')) (g_w : d_X10_cost 82 m_w = some (v', m')) : RSw c' m' := by
  refine ⟨RQw.q16w len_w l13 R.1 f_w g_w, ?_⟩
  have ha_w := md41 R.1.1.1.1.2.2
  have n6_w : (c.1 (c.2.2.1 1 7) 0).toInt ≤ 6 := R.1.1.1.2.1.1.2.1.2
  unfold d_X9_cost at f_w
  obtain ⟨q_w, hq, f_w⟩ := Option.bind_eq_some_iff.mp f_w
  have K_w := sv_X9_isRight (SVm.rsw R len_w) hq
  by_cases c1_w : ¬ q_w.1.toInt = 0
  · rw [if_pos c1_w] at f_w
    unfold d_X9_cost_l14 at f_w
    refine dc_lp_inv (s := ((0 : Int32), (0 : Int32), q_w.2)) (fun s : Int32 × Int32 × dc_M => SVm (c.2.2.1 1 7) (c.2.2.1 1 8) c s.2.2) (fun u_w : Int32 × dc_M => (v_w, c') = u_w → SVw c') (fun s s' hI hs => ?_) (fun s u_w hI hs => ?_) K_w f_w rfl
    · obtain ⟨x_w, y_w, z_w⟩ := s
      have hI : SVm (c.2.2.1 1 7) (c.2.2.1 1 8) c z_w := hI
      have hs : d_X9_cost_l14b 1 x_w y_w z_w = some (.inl s') := hs
      have a7 : z_w.2.2.1 1 7 = c.2.2.1 1 7 := hI.1.2.1
      have a0_w : z_w.1 (c.2.2.1 1 7) 0 = c.1 (c.2.2.1 1 7) 0 := hI.1.2.2.2.2.2.2 _ 0 (by omega)
      unfold d_X9_cost_l14b at hs
      rw [a7] at hs
      split at hs
      · cases hs
      · split at hs
        · rename_i n1_w n2_w
          obtain ⟨w_w, w1_w, -, w2_w⟩ := ism_w (by rw [a0_w]; exact n6_w) n2_w
          obtain ⟨p_w, hp, hs⟩ := Option.bind_eq_some_iff.mp hs
          have A_w := sv_X9_canBeMade hI hp
          split at hs
          · obtain ⟨u_w, hu, hs⟩ := Option.bind_eq_some_iff.mp hs
            have hs := Sum.inl.inj (Option.some.inj hs)
            rw [← hs]
            have B_w := cp_X8_solve rfl A_w.1 hu
            rw [w2_w] at hu
            exact ⟨B_w, svs_w w1_w A_w.2 hu⟩
          · cases hs
        · have hs := Sum.inl.inj (Option.some.inj hs)
          rw [← hs]
          exact hI
    · intro hu
      obtain ⟨x_w, y_w, z_w⟩ := s
      have hI : SVm (c.2.2.1 1 7) (c.2.2.1 1 8) c z_w := hI
      have hs : d_X9_cost_l14b 1 x_w y_w z_w = some (.inr u_w) := hs
      unfold d_X9_cost_l14b at hs
      split at hs
      · have r_w := (Prod.mk.inj (hu.trans (Sum.inr.inj (Option.some.inj hs)).symm)).2
        rw [r_w]; exact hI.2
      · split at hs
        · obtain ⟨p_w, hp, hs⟩ := Option.bind_eq_some_iff.mp hs
          have A_w := sv_X9_canBeMade hI hp
          split at hs
          · obtain ⟨u', hu', hs⟩ := Option.bind_eq_some_iff.mp hs
            cases hs
          · have r_w := (Prod.mk.inj (hu.trans (Sum.inr.inj (Option.some.inj hs)).symm)).2
            rw [r_w]; exact A_w.2
        · cases hs
  · rw [if_neg c1_w] at f_w
    have r_w := (Prod.mk.inj (Option.some.inj f_w)).2
    rw [← r_w]; exact K_w.2
