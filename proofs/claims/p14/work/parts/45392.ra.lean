/-! ===== the run by hand and the sheets, with all the rest ===== -/
def RH (c m_w : dc_M) : Prop := c.1 37 0 = m_w.1 82 64 ∧ (0 ≤ (c.1 37 0).toInt ∧ (c.1 37 0).toInt ≤ 100) ∧ m_w.1 115 0 = m_w.1 82 11 ∧ ∀ j_w : Nat, (j_w : Int) < (c.1 37 0).toInt → c.1 38 j_w = m_w.1 116 j_w ∧ c.1 39 j_w = m_w.1 115 (j_w + 1)
def RS1 (c m_w : dc_M) (j_w : Nat) : Prop := ((c.1 (74 + 2 * j_w) 0).toInt = -1 ∧ m_w.1 117 j_w = -4) ∨ (c.1 (74 + 2 * j_w) 0 = m_w.1 118 j_w ∧ (0 ≤ (m_w.1 118 j_w).toInt ∧ (m_w.1 118 j_w).toInt ≤ 64) ∧ c.1 (74 + 2 * j_w) 2 = m_w.1 117 j_w ∧ (0 ≤ (m_w.1 117 j_w).toInt ∧ (m_w.1 117 j_w).toInt ≤ 2) ∧ ∀ x_w : Nat, (x_w : Int) < (m_w.1 118 j_w).toInt → c.1 (75 + 2 * j_w) x_w = m_w.1 119 (64 * j_w + x_w))
def RS (c m_w : dc_M) : Prop := ∀ j_w, j_w < 4 → RS1 c m_w j_w
def RAw (c m_w : dc_M) : Prop := RN c m_w ∧ RH c m_w ∧ RS c m_w
theorem RH.eqw {c m_w c' m' : dc_M} (H_w : RH c m_w) (e1_w : c'.1 37 = c.1 37) (e2_w : c'.1 38 = c.1 38) (e3_w : c'.1 39 = c.1 39) (e4_w : m'.1 82 64 = m_w.1 82 64) (e5_w : m'.1 82 11 = m_w.1 82 11) (e6_w : m'.1 115 = m_w.1 115) (e7_w : m'.1 116 = m_w.1 116) : RH c' m' := by
  unfold RH at H_w ⊢
  rw [e1_w, e2_w, e3_w, e4_w, e5_w, e6_w, e7_w]
  exact H_w
theorem RS.eqw {c m_w c' m' : dc_M} (S_w : RS c m_w) (e1_w : ∀ b, 74 ≤ b → b ≤ 81 → c'.1 b = c.1 b) (e2_w : ∀ b, 117 ≤ b → b ≤ 119 → m'.1 b = m_w.1 b) : RS c' m' := fun j_w hj => by
  have s_w := S_w j_w hj
  unfold RS1 at s_w ⊢
  rw [e1_w (74 + 2 * j_w) (by omega) (by omega), e1_w (75 + 2 * j_w) (by omega) (by omega), e2_w 117 (by decide) (by decide), e2_w 118 (by decide) (by decide), e2_w 119 (by decide) (by decide)]
  exact s_w
/-- all else is left alone -/
theorem RAw.kpw {c m_w c' m' : dc_M} (R : RAw c m_w) (N_w : RN c' m') (e1_w : ∀ b k_w, (37 ≤ b ∧ b ≤ 39) ∨ (74 ≤ b ∧ b ≤ 81) → c'.1 b k_w = c.1 b k_w) (e4_w : m'.1 82 64 = m_w.1 82 64) (e5_w : m'.1 82 11 = m_w.1 82 11) (e6_w : ∀ b k_w, 115 ≤ b → b ≤ 119 → m'.1 b k_w = m_w.1 b k_w) : RAw c' m' := ⟨N_w, R.2.1.eqw (funext (fun k_w => e1_w 37 k_w (by omega))) (funext (fun k_w => e1_w 38 k_w (by omega))) (funext (fun k_w => e1_w 39 k_w (by omega))) e4_w e5_w (funext (fun k_w => e6_w 115 k_w (by omega) (by omega))) (funext (fun k_w => e6_w 116 k_w (by omega) (by omega))), R.2.2.eqw (fun b h1 h2 => funext (fun k_w => e1_w b k_w (by omega))) (fun b h1 h2 => funext (fun k_w => e6_w b k_w (by omega) (by omega)))⟩
theorem RAw.smw (c m_w m' : dc_M) (v_w : vs 82 120 m_w m') (R : RAw c m_w) : RAw c m' := R.kpw (RN.sm c m_w m' v_w R.1) (fun _ _ _ => rfl) (by rw [(v_w 82 (by decide) (by decide)).1]) (by rw [(v_w 82 (by decide) (by decide)).1]) (fun b k_w h1 h2 => by rw [(v_w b (by omega) (by omega)).1])
theorem RAw.scw (c c' m_w : dc_M) (v_w : vs 1 82 c c') (R : RAw c m_w) : RAw c' m_w := R.kpw (RN.sc c c' m_w v_w R.1) (fun b k_w h_w => by rw [(v_w b (by omega) (by omega)).1]) rfl rfl (fun _ _ _ _ => rfl)
theorem RAw.md (c m_w : dc_M) (R : RAw c m_w) : cs_md (c.2.2.1 1 7) (c.2.2.1 1 8) := RN.md c m_w R.1
def RA_D : List Nat := [10560, 10507]
def RA_c (x_w : Nat) : Bool := decide (x_w / 128 < 37) || (decide (39 < x_w / 128) && decide (x_w / 128 < 74)) || (decide (81 < x_w / 128) && decide (x_w / 128 < 115)) || decide (119 < x_w / 128)
section RAw
variable {z_w L_w : Nat} {xs : Nat → Int32} {h_w h' : ab_H}
theorem ra_cell {mo : List Nat} (hC : mo.all RA_c = true) (hfr : sx_fr mo h_w h') (hh : sx_h sx_SP z_w L_w xs h_w) (hh' : sx_h sx_SP z_w L_w xs h') {b : Nat} (hb_w : (37 ≤ b ∧ b ≤ 39) ∨ (74 ≤ b ∧ b ≤ 81) ∨ (115 ≤ b ∧ b ≤ 119)) : (dc_vw h').1 b = (dc_vw h_w).1 b := by
  have e_w := fr_cell hfr hh hh' (b := b) (by omega) (by omega) (List.all_eq_true.mpr (fun x_w hx => by
    have q_w := List.all_eq_true.mp hC x_w hx
    unfold RA_c at q_w
    simp only [Bool.or_eq_true, Bool.and_eq_true, decide_eq_true_eq] at q_w
    rw [decide_eq_false (by omega)]
    rfl))
  show (fun k_w => dc_vi (h'.2.2 b) k_w) = fun k_w => dc_vi (h_w.2.2 b) k_w
  rw [e_w]
theorem RAw.frw {mo : List Nat} (hD : (((Rt_D.all (fun k_w => !mo.contains k_w) && RN_D.all (fun k_w => !mo.contains k_w)) && mo.all RN_c) && (RA_D.all (fun k_w => !mo.contains k_w) && mo.all RA_c)) = true) (hh : sx_h sx_SP z_w L_w xs h_w) (hh' : sx_h sx_SP z_w L_w xs h') (hfr : sx_fr mo h_w h') (R : GR RAw h_w) : GR RAw h' := by
  rw [Bool.and_eq_true] at hD
  obtain ⟨hA, hB_w⟩ := hD
  rw [Bool.and_eq_true] at hB_w
  obtain ⟨hB_w, hC⟩ := hB_w
  have t_w := RN.fr hA hh hh' hfr ⟨R.1.1, R.2⟩
  have g64 : (dc_vw h').1 82 64 = (dc_vw h_w).1 82 64 := gd_fi (c := 82) hfr hh hh' rfl (D_c hB_w (by decide)) (by decide)
  have g11 : (dc_vw h').1 82 11 = (dc_vw h_w).1 82 11 := gd_fi (c := 82) hfr hh hh' rfl (D_c hB_w (by decide)) (by decide)
  exact ⟨R.1.kpw t_w.1 (fun b k_w hb_w => by rw [ra_cell hC hfr hh hh' (by omega)]) g64 g11 (fun b k_w h1 h2 => by rw [ra_cell hC hfr hh hh' (by omega)]), t_w.2⟩
end RAw
theorem RAw.p0w {V : Int64} {c m_w c' m' : dc_M} {v_w v' : Int32} (ty_w : (c.2.2.2 3).1 = 1) (R : RAw c m_w) (f_w : d_X9_feed 1 V c = some (v_w, c')) (g_w : d_X10_feed 82 V m_w = some (v', m')) : v_w = v' ∧ RAw c' m' := by
  obtain ⟨-, -, -, r2, -, r4, r5_w, -⟩ := fe_sim R.1.1.1 ty_w f_w g_w
  obtain ⟨e_w, t_w⟩ := RN.p0 ty_w R.1 f_w g_w
  exact ⟨e_w, R.kpw t_w (fun b k_w hb_w => r2 b k_w (by omega) (by omega)) (r5_w 64 (by decide)) (r5_w 11 (by decide)) (fun b k_w h1 h2 => r4 b k_w (by omega) (by omega))⟩
theorem RAw.p1w {x_w : Int32} {c m_w c' m' : dc_M} {v_w v' : Int32} (R : RAw c m_w) (f_w : d_X9_end 1 x_w c = (v_w, c')) (g_w : d_X10_end 82 x_w m_w = (v', m')) : v_w = v' ∧ RAw c' m' := by
  obtain ⟨-, -, -, r2, r3, -⟩ := en_sim R.1.1.1 f_w g_w
  obtain ⟨e_w, t_w⟩ := RN.p1 R.1 f_w g_w
  exact ⟨e_w, R.kpw t_w (fun b k_w hb_w => r2 b k_w (by omega)) (r3 82 64 (by omega)) (r3 82 11 (by omega)) (fun b k_w h1 h2 => r3 b k_w (by omega))⟩
theorem ra_55 {m0_w m_w : dc_M} {z_w : Int32 × dc_M} (q_w : fb m0_w m_w) (h_w : d_X10_text_b55 82 m_w = some z_w) : (0 < (z_w.2.1 82 14).toInt ∧ z_w.2.1 82 64 = m0_w.1 82 64 ∧ z_w.2.1 82 11 = m0_w.1 82 11 ∧ ∀ b k_w, 115 ≤ b → b ≤ 119 → z_w.2.1 b k_w = m0_w.1 b k_w) ∨ ((z_w.2.1 82 14).toInt ≤ 0 ∧ z_w.2.1 82 64 = 0 ∧ z_w.2.1 115 0 = z_w.2.1 82 11 ∧ ∀ b k_w, 117 ≤ b → b ≤ 119 → z_w.2.1 b k_w = m0_w.1 b k_w) := by
  unfold d_X10_text_b55 at h_w
  split at h_w
  · rename_i hc_w
    have hc_w : (m_w.1 82 15).toInt ≤ 0 := hc_w
    obtain ⟨-, -, t3_w⟩ := tc_117 h_w
    refine Or.inr ⟨?_, ?_, ?_, fun b k_w h1 h2 => ?_⟩
    · have e_w : z_w.2.1 82 14 = m_w.1 82 15 := by rw [t3_w]; rfl
      rw [e_w]
      exact hc_w
    · rw [t3_w]; rfl
    · rw [t3_w, t3_w]; rfl
    · rw [t3_w, if_neg (by omega), if_neg (by omega), if_neg (by omega)]
      unfold tcA
      rw [if_neg (by omega), if_neg (by omega), wi_k (by omega), wi_k (by omega), wi_k (by omega), wi_k (by omega), wi_k (by omega), wi_k (by omega)]
      exact q_w.2 b k_w (by omega) (by omega)
  · rename_i hc_w
    have hc_w : ¬ (m_w.1 82 15).toInt ≤ 0 := hc_w
    have h_w := Option.some.inj h_w
    rw [← h_w]
    refine Or.inl ⟨?_, ?_, ?_, fun b k_w h1 h2 => ?_⟩
    · show 0 < ((dc_wi (dc_wi m_w 82 13 0) 82 14 (m_w.1 82 15)).1 82 14).toInt
      rw [wi_s]
      omega
    · show (dc_wi (dc_wi m_w 82 13 0) 82 14 (m_w.1 82 15)).1 82 64 = _
      rw [wi_k (by omega), wi_k (by omega)]
      exact q_w.2 82 64 (by omega) (by omega)
    · show (dc_wi (dc_wi m_w 82 13 0) 82 14 (m_w.1 82 15)).1 82 11 = _
      rw [wi_k (by omega), wi_k (by omega)]
      exact q_w.2 82 11 (by omega) (by omega)
    · show (dc_wi (dc_wi m_w 82 13 0) 82 14 (m_w.1 82 15)).1 b k_w = _
      rw [wi_k (by omega), wi_k (by omega)]
      exact q_w.2 b k_w (by omega) (by omega)
theorem RAw.p2w {c m_w c' m' : dc_M} {v_w v' : Int32} (R : RAw c m_w) (f_w : d_X9_text 1 c = some (v_w, c')) (g_w : d_X10_text 82 m_w = some (v', m')) : v_w = v' ∧ RAw c' m' := by
  obtain ⟨e_w, N_w⟩ := RN.p2 R.1 f_w g_w
  refine ⟨e_w, ?_⟩
  have md := R.1.1.2.2
  unfold cs_md at md
  have h41 : c.2.2.1 1 8 = 41 ∨ c.2.2.1 1 8 = 52 := by omega
  have X_w := fb_text2 (P := fun z_w : Int32 × dc_M => (0 < (z_w.2.1 82 14).toInt ∧ z_w.2.1 82 64 = m_w.1 82 64 ∧ z_w.2.1 82 11 = m_w.1 82 11 ∧ ∀ b k_w, 115 ≤ b → b ≤ 119 → z_w.2.1 b k_w = m_w.1 b k_w) ∨ ((z_w.2.1 82 14).toInt ≤ 0 ∧ z_w.2.1 82 64 = 0 ∧ z_w.2.1 115 0 = z_w.2.1 82 11 ∧ ∀ b k_w, 117 ≤ b → b ≤ 119 → z_w.2.1 b k_w = m_w.1 b k_w)) (fun s_w z_w q_w h_w => ra_55 q_w h_w) g_w
  have X_w : (0 < (m'.1 82 14).toInt ∧ m'.1 82 64 = m_w.1 82 64 ∧ m'.1 82 11 = m_w.1 82 11 ∧ ∀ b k_w, 115 ≤ b → b ≤ 119 → m'.1 b k_w = m_w.1 b k_w) ∨ ((m'.1 82 14).toInt ≤ 0 ∧ m'.1 82 64 = 0 ∧ m'.1 115 0 = m'.1 82 11 ∧ ∀ b k_w, 117 ≤ b → b ≤ 119 → m'.1 b k_w = m_w.1 b k_w) := X_w
  unfold d_X9_text at f_w
  rw [show 1 + 1 = 2 from rfl] at f_w
  cases hz : d_X4_readInto 2 (c.2.2.1 1 8) c with
  | none => rw [hz] at f_w; cases f_w
  | some z_w =>
    rw [hz, Option.bind_some] at f_w
    have fi := fa_into hz
    rcases tx_sim h41 R.1.1.1 hz g_w with ⟨z1, p_w, K_w, mm, l, hb_w⟩ | ⟨z1, f', g', d1_w, y1, y2, y3, y4⟩
    · rw [z1, if_pos (by decide), dc_let_eq] at f_w
      have f14_w : m'.1 82 14 = 0 := (tc_55 l.1.n2 hb_w).2.2.1.1
      rcases X_w with ⟨w1_w, -⟩ | ⟨w1_w, w2_w, w3_w, w4_w⟩
      · rw [f14_w] at w1_w
        exact absurd w1_w (by decide)
      · generalize hQ : d_X9_beginAnew 1 (dc_wr (dc_wr (dc_wi z_w.2 2 1 0) 1 7 ((dc_wi z_w.2 2 1 0).2.2.1 1 8)) 1 8 ((dc_wi z_w.2 2 1 0).2.2.1 1 7)) = Q at f_w
        have Q37 : Q.1 37 0 = 0 := by rw [← hQ]; rfl
        have Qe : ∀ b k_w, 74 ≤ b → b ≤ 81 → Q.1 b k_w = c.1 b k_w := fun b k_w h1 h2 => by
          rw [← hQ]
          unfold d_X9_beginAnew
          rw [wi_k (by omega), wi_k (by omega), wi_k (by omega), wi_k (by omega), wi_k (by omega), wi_k (by omega), wi_k (by omega)]
          show (dc_wi z_w.2 2 1 0).1 b k_w = _
          rw [wi_k (by omega)]
          exact fi.2 b k_w (by omega) (by omega)
        have hc_w : Q = c' := (Prod.mk.inj (Option.some.inj f_w)).2
        rw [hc_w] at Q37 Qe
        refine ⟨N_w, ⟨by rw [Q37, w2_w], by rw [Q37]; decide, w3_w, fun j_w hj => ?_⟩, R.2.2.eqw (fun b h1 h2 => funext (fun k_w => Qe b k_w h1 h2)) (fun b h1 h2 => funext (fun k_w => w4_w b k_w h1 h2))⟩
        rw [Q37, show (0 : Int32).toInt = 0 from rfl] at hj
        omega
    · rw [z1, if_neg (fun q_w => q_w rfl)] at f_w
      have f_w : some ((-10 : Int32) - z_w.2.1 2 3, dc_wi z_w.2 2 1 0) = some (v_w, c') := f_w
      have hc_w := (Prod.mk.inj (Option.some.inj f_w)).2
      have pos_w : 0 < (m'.1 82 14).toInt := by rw [show m'.1 82 14 = f' from y2]; exact y4
      rcases X_w with ⟨-, w2_w, w3_w, w4_w⟩ | ⟨w1_w, -⟩
      · refine R.kpw N_w (fun b k_w hb_w => ?_) w2_w w3_w w4_w
        rw [← hc_w]
        exact (wi_k (by omega)).trans (fi.2 b k_w (by omega) (by omega))
      · omega
theorem RAw.cpk {c m_w c' m' : dc_M} (R : RAw c m_w) (N_w : RN c' m') (C_w : CP (c.2.2.1 1 7) (c.2.2.1 1 8) c c') (K_w : KNw m_w m') : RAw c' m' := R.kpw N_w (fun b k_w hb_w => C_w.2.2.2.2.2.2 b k_w (by omega)) (K_w.1 64 (by omega)) (K_w.1 11 (by omega)) (fun b k_w h1 h2 => K_w.2.2.2 b k_w (by omega))
theorem CP.ra {c m_w : dc_M} (R : RAw c m_w) (len_w : (c.2.2.2 10).2 = 512) : CP (c.2.2.1 1 7) (c.2.2.1 1 8) c c := CP.of R.1 len_w
theorem RAw.p7w {c m_w c' m' : dc_M} {v_w v' : Int32} (len_w : (c.2.2.2 10).2 = 512) (R : RAw c m_w) (f_w : d_X9_states 1 c = some (v_w, c')) (g_w : d_X10_states 82 m_w = some (v', m')) : v_w = v' ∧ RAw c' m' := by
  obtain ⟨e_w, N_w⟩ := RN.p7 len_w R.1 f_w g_w
  exact ⟨e_w, R.cpk N_w (cp_X9_states (CP.ra R len_w) f_w) (KNw.ofw (kr_X10_states kr_of g_w))⟩
theorem RAw.p8w {c m_w c' m' : dc_M} {v_w v' : Int32} (len_w : (c.2.2.2 10).2 = 512) (hr : ∀ k_w, k_w < 16 → 0 ≤ (m_w.1 86 k_w).toInt ∧ (m_w.1 86 k_w).toInt ≤ 1) (R : RAw c m_w) (f_w : d_X9_right 1 c = some (v_w, c')) (g_w : d_X10_right 82 m_w = some (v', m')) : v_w = v' ∧ RAw c' m' := by
  obtain ⟨e_w, N_w⟩ := RN.p8 len_w hr R.1 f_w g_w
  exact ⟨e_w, R.cpk N_w (cp_X9_right (CP.ra R len_w) f_w) (KNw.ofw (kr_X10_right kr_of g_w))⟩
theorem RAw.p9w {x1_w x2_w : Int32} {c m_w c' m' : dc_M} {v_w v' : Int32} (len_w : (c.2.2.2 10).2 = 512) (hr : ∀ k_w, k_w < 16 → 0 ≤ (m_w.1 86 k_w).toInt ∧ (m_w.1 86 k_w).toInt ≤ 1) (R : RAw c m_w) (f_w : d_X9_of 1 x1_w x2_w c = some (v_w, c')) (g_w : d_X10_of 82 x1_w x2_w m_w = some (v', m')) : v_w = v' ∧ RAw c' m' := by
  obtain ⟨e_w, N_w⟩ := RN.p9 len_w hr R.1 f_w g_w
  exact ⟨e_w, R.cpk N_w (cp_X9_of (CP.ra R len_w) f_w) (KNw.ofw (kr_X10_of kr_of g_w))⟩
theorem RAw.q10w {x1_w : Int32} {c m_w c' m' : dc_M} {v_w v' : Int32} (len_w : (c.2.2.2 10).2 = 512) (R : RAw c m_w) (f_w : d_X9_quarrels 1 x1_w c = some (v_w, c')) (g_w : d_X10_quarrels 82 x1_w m_w = some (v', m')) : RAw c' m' := R.cpk (RN.q10w len_w R.1 f_w g_w) (cp_X9_quarrels (CP.ra R len_w) f_w) (KNw.ofw (kr_X10_quarrels kr_of g_w))
theorem RAw.q11w {x1_w : Int32} {c m_w c' m' : dc_M} {v_w v' : Int32} (len_w : (c.2.2.2 10).2 = 512) (R : RAw c m_w) (f_w : d_X9_back 1 x1_w c = some (v_w, c')) (g_w : d_X10_back 82 x1_w m_w = some (v', m')) : RAw c' m' := R.cpk (RN.q11w len_w R.1 f_w g_w) (cp_X9_back (CP.ra R len_w) f_w) (KNw.ofw (kr_X10_back kr_of g_w))
theorem RAw.q12w {x1_w : Int32} {c m_w c' m' : dc_M} {v_w v' : Int32} (len_w : (c.2.2.2 10).2 = 512) (R : RAw c m_w) (f_w : d_X9_stuck 1 x1_w c = some (v_w, c')) (g_w : d_X10_stuck 82 x1_w m_w = some (v', m')) : RAw c' m' := R.cpk (RN.q12w len_w R.1 f_w g_w) (cp_X9_stuck (CP.ra R len_w) f_w) (KNw.ofw (kr_X10_stuck kr_of g_w))
theorem RAw.q13w {x1_w x2_w : Int32} {c m_w c' m' : dc_M} {v_w v' : Int32} (len_w : (c.2.2.2 10).2 = 512) (R : RAw c m_w) (f_w : d_X9_aim 1 x1_w x2_w c = some (v_w, c')) (g_w : d_X10_aim 82 x1_w x2_w m_w = some (v', m')) : RAw c' m' := R.cpk (RN.q13w len_w R.1 f_w g_w) (cp_X9_aim (CP.ra R len_w) f_w) (KNw.ofw (kr_X10_aim kr_of g_w))
theorem RAw.q14w {x1_w x2_w : Int32} {c m_w c' m' : dc_M} {v_w v' : Int32} (len_w : (c.2.2.2 10).2 = 512) (R : RAw c m_w) (f_w : d_X9_makes 1 x1_w x2_w c = some (v_w, c')) (g_w : d_X10_makes 82 x1_w x2_w m_w = some (v', m')) : RAw c' m' := R.cpk (RN.q14w len_w R.1 f_w g_w) (cp_X9_makes (CP.ra R len_w) f_w) (KNw.ofw (kr_X10_makes kr_of g_w))
theorem RAw.q15w {x1_w x2_w x3 x4_w x5_w : Int32} {c m_w c' m' : dc_M} {v_w v' : Int32} (len_w : (c.2.2.2 10).2 = 512) (R : RAw c m_w) (f_w : d_X9_judge 1 x1_w x2_w x3 x4_w x5_w c = some (v_w, c')) (g_w : d_X10_judge 82 x1_w x2_w x3 x4_w x5_w m_w = some (v', m')) : RAw c' m' := R.cpk (RN.q15w len_w R.1 f_w g_w) (cp_X9_judge (CP.ra R len_w) f_w) (KNw.ofw (kr_X10_judge kr_of g_w))
theorem RAw.q16w {c m_w c' m' : dc_M} {v_w v' : Int32} (len_w : (c.2.2.2 10).2 = 512) (R : RAw c m_w) (f_w : d_X9_cost 1 c = some (v_w, c')) (g_w : d_X10_cost 82 m_w = some (v', m')) : RAw c' m' := R.cpk (RN.q16w len_w R.1 f_w g_w) (cp_X9_cost (CP.ra R len_w) f_w) (KNw.ofw (kr_X10_cost kr_of g_w))
theorem RAw.q17w {x1_w x2_w : Int32} {c m_w c' m' : dc_M} {v_w v' : Int32} (len_w : (c.2.2.2 10).2 = 512) (R : RAw c m_w) (f_w : d_X9_would 1 x1_w x2_w c = some (v_w, c')) (g_w : d_X10_would 82 x1_w x2_w m_w = some (v', m')) : RAw c' m' := R.cpk (RN.q17w len_w R.1 f_w g_w) (cp_X9_would (CP.ra R len_w) f_w) (kn_would (NB.ofw R.1.2.1) g_w)
theorem RAw.q19 {x1_w : Int32} {c m_w c' m' : dc_M} {v_w v' : Int32} (len_w : (c.2.2.2 10).2 = 512) (R : RAw c m_w) (f_w : d_X9_cures 1 x1_w c = some (v_w, c')) (g_w : d_X10_cures 82 x1_w m_w = some (v', m')) : RAw c' m' := R.cpk (RN.q19 len_w R.1 f_w g_w) (cp_X9_cures (CP.ra R len_w) f_w) (kn_cures (NB.ofw R.1.2.1) g_w)
theorem RAw.sm (c m_w m' : dc_M) (v_w : vs 82 120 m_w m') (R : RAw c m_w) : RAw c m' := RAw.smw c m_w m' v_w R
theorem RAw.sc (c c' m_w : dc_M) (v_w : vs 1 82 c c') (R : RAw c m_w) : RAw c' m_w := RAw.scw c c' m_w v_w R
theorem RAw.fr {z_w L_w : Nat} {xs : Nat → Int32} {h_w h' : ab_H} {mo : List Nat} (hD : (((Rt_D.all (fun k_w => !mo.contains k_w) && RN_D.all (fun k_w => !mo.contains k_w)) && mo.all RN_c) && (RA_D.all (fun k_w => !mo.contains k_w) && mo.all RA_c)) = true) (hh : sx_h sx_SP z_w L_w xs h_w) (hh' : sx_h sx_SP z_w L_w xs h') (hfr : sx_fr mo h_w h') (R : GR RAw h_w) : GR RAw h' := RAw.frw hD hh hh' hfr R
