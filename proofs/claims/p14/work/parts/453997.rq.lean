/-! ===== a_w cure, a_w delay, the run and the sheets, with what the class remembers ===== -/
theorem cu_memo {a_w b_w : Nat} {c0_w c_w : dc_M} {x1_w x2_w : Int32} {e_w : Int32 × dc_M} (Q_w : CQm a_w b_w c0_w c_w) (f_w : d_X9_cure 1 x1_w x2_w c_w = some e_w) : CQm a_w b_w c0_w e_w.2 ∨ (e_w.2.1 1 12 = 0 ∧ e_w.2.1 1 13 = 0) := by
  unfold d_X9_cure at f_w
  cases hq : d_X9_refusedCure 1 x1_w x2_w c_w with
  | none => rw [hq] at f_w; cases f_w
  | some q_w =>
    rw [hq, Option.bind_some] at f_w
    by_cases z_w : q_w.1.toInt = 0
    · rw [if_pos z_w] at f_w
      cases hw : d_X3_addWireBehind (q_w.2.2.2.1 1 7) x1_w x2_w q_w.2 with
      | none => rw [hw] at f_w; cases f_w
      | some w_w =>
        rw [hw, Option.bind_some, dc_let_eq] at f_w
        cases f_w
        exact Or.inr ⟨rfl, rfl⟩
    · rw [if_neg z_w] at f_w
      cases f_w
      exact Or.inl (cq_X9_refusedCure Q_w hq)
theorem RQw.p18 {x1_w x2_w : Int32} {c_w m_w c' m' : dc_M} {v_w v' : Int32} (len_w : (c_w.2.2.2 10).2 = 512) (l13 : (c_w.2.2.2 13).2 = 64) (hr : ∀ k_w, k_w < 16 → 0 ≤ (m_w.1 86 k_w).toInt ∧ (m_w.1 86 k_w).toInt ≤ 1) (R : RQw c_w m_w) (f_w : d_X9_cure 1 x1_w x2_w c_w = some (v_w, c')) (g_w : d_X10_cure 82 x1_w x2_w m_w = some (v', m')) : v_w = v' ∧ RQw c' m' := by
  obtain ⟨e_w, A_w⟩ := RAw.p18 len_w hr R.1 f_w g_w
  rcases cu_memo (CQm.rqw R len_w l13) f_w with Q_w | ⟨z12, z13_w⟩
  · exact ⟨e_w, RQw.cqw A_w Q_w⟩
  · exact ⟨e_w, A_w, fun q_w => absurd z12 q_w, fun q_w => absurd z13_w q_w⟩
theorem dl_1 {x1_w x2_w v_w : Int32} {c_w c' : dc_M} (f_w : d_X9_delay 1 x1_w x2_w c_w = (v_w, c')) : (∀ k_w, k_w ≠ 14 → c'.1 1 k_w = c_w.1 1 k_w) ∧ c'.2 = c_w.2 := by
  unfold d_X9_delay at f_w
  split at f_w
  · cases f_w; exact ⟨fun _ _ => rfl, rfl⟩
  · split at f_w
    · cases f_w; exact ⟨fun _ _ => rfl, rfl⟩
    · split at f_w
      · have f_w := (Prod.mk.inj f_w).2
        rw [← f_w]
        exact ⟨fun k_w h_w => by rw [wi_k (by omega), wi_k (by omega)], rfl⟩
      · cases f_w; exact ⟨fun _ _ => rfl, rfl⟩
theorem RQw.p20 {x1_w x2_w : Int32} {c_w m_w c' m' : dc_M} {v_w v' : Int32} (R : RQw c_w m_w) (f_w : d_X9_delay 1 x1_w x2_w c_w = (v_w, c')) (g_w : d_X10_delay 82 x1_w x2_w m_w = (v', m')) : v_w = v' ∧ RQw c' m' := by
  have ha_w := md41 R.1.1.1.2.2
  obtain ⟨e_w, A_w⟩ := RAw.p20 R.1 f_w g_w
  obtain ⟨d1_w, d2_w⟩ := dl_1 f_w
  have dc := dl_c f_w
  have e7_w : c'.2.2.1 1 7 = c_w.2.2.1 1 7 := by rw [d2_w]
  exact ⟨e_w, A_w, R.2.1.eqw (d1_w 11 (by decide)) (d1_w 12 (by decide)) e7_w (fun i_w hi_w h8 => funext (fun k_w => dc _ k_w (by omega) (by omega))) (fun b_w k_w h1 h2 _ => dc b_w k_w (by omega) (by omega)) (fun k_w _ => dc 12 k_w (by decide) (by omega)), R.2.2.eqw (d1_w 11 (by decide)) (d1_w 13 (by decide)) e7_w (dc _ 0 (by omega) (by omega)) (fun b_w k_w h1 h2 _ => dc b_w k_w (by omega) (by omega)) (fun k_w => by rw [d2_w]; exact ⟨rfl, rfl⟩) (dc 15 6 (by decide) (by omega)) (dc 15 7 (by decide) (by omega))⟩
theorem km_add {x_w w_w : Int32} {c_w : dc_M} : KMw c_w (d_X2_add 37 x_w w_w c_w).2 := by
  unfold d_X2_add
  split
  · exact ((KMw.rfw.wiw (by omega)).wiw (by omega)).wiw (by omega)
  · exact KMw.rfw
theorem km_come {x_w v_w : Int32} {c_w c' : dc_M} (f_w : d_X9_come 1 x_w c_w = (v_w, c')) : KMw c_w c' := by
  unfold d_X9_come at f_w
  rw [show 1 + 36 = 37 from rfl] at f_w
  split at f_w
  · split at f_w
    · rw [dc_let_eq] at f_w
      split at f_w
      · have f_w := (Prod.mk.inj f_w).2
        rw [← f_w]
        exact km_add
      · have f_w := (Prod.mk.inj f_w).2
        rw [← f_w]
        exact km_add
    · cases f_w; exact KMw.rfw
  · cases f_w; exact KMw.rfw
theorem km_drop {c_w : dc_M} : KMw c_w (d_X2_dropLatest 37 c_w).2 := by
  unfold d_X2_dropLatest
  split
  · exact KMw.rfw.wiw (by omega)
  · exact KMw.rfw
theorem km_undo {v_w : Int32} {c_w c' : dc_M} (f_w : d_X9_undo 1 c_w = (v_w, c')) : KMw c_w c' := by
  unfold d_X9_undo at f_w
  rw [show 1 + 36 = 37 from rfl, dc_let_eq] at f_w
  split at f_w
  · have f_w := (Prod.mk.inj f_w).2
    rw [← f_w]
    exact km_drop
  · have f_w := (Prod.mk.inj f_w).2
    rw [← f_w]
    exact km_drop
theorem km_sheet {x1_w x2_w x3 v_w : Int32} {c_w c' : dc_M} (h40 : ∀ j, j < 4 → c_w.2.2.1 40 j = 74 + 2 * j) (hl : ∀ j, j < 4 → (c_w.2.2.2 (75 + 2 * j)).2 = 64) (f_w : d_X9_sheet 1 x1_w x2_w x3 c_w = some (v_w, c')) : KMw c_w c' := by
  unfold d_X9_sheet at f_w
  rw [shk_is] at f_w
  by_cases c1_w : 0 ≤ x1_w.toInt ∧ x1_w.toInt ≤ 3
  · have n1_w := cl_n c1_w.1
    rw [if_neg (fun q_w => (di_ine.mp q_w) c1_w)] at f_w
    split at f_w
    · cases f_w; exact KMw.rfw
    · split at f_w
      · split at f_w
        · have hj : x1_w.toNatClampNeg < 4 := by omega
          rw [show 1 + 39 = 40 from rfl, h40 _ hj] at f_w
          unfold d_X6_renew at f_w
          rw [show 74 + 2 * x1_w.toNatClampNeg + 1 = 75 + 2 * x1_w.toNatClampNeg by omega] at f_w
          cases hf : d_J7_fill_53178 (75 + 2 * x1_w.toNatClampNeg) 0 (dc_wi (dc_wi c_w (74 + 2 * x1_w.toNatClampNeg) 2 x2_w) (74 + 2 * x1_w.toNatClampNeg) 0 x3) with
          | none => rw [hf] at f_w; cases f_w
          | some e_w =>
            rw [hf] at f_w
            have f_w := Prod.mk.inj (Option.some.inj f_w)
            obtain ⟨r1_w, r2, -⟩ := fi_run (n := 64) (show ((dc_wi (dc_wi c_w (74 + 2 * x1_w.toNatClampNeg) 2 x2_w) (74 + 2 * x1_w.toNatClampNeg) 0 x3).2.2.2 (75 + 2 * x1_w.toNatClampNeg)).2 = 64 from hl _ hj) (by decide) hf
            rw [← f_w.2]
            exact ⟨fun b_w k_w hb_w => by rw [r2 b_w (by omega), wi_k (by omega), wi_k (by omega)], r1_w⟩
        · cases f_w; exact KMw.rfw
      · cases f_w; exact KMw.rfw
  · rw [if_pos (di_ine.mpr c1_w)] at f_w
    cases f_w; exact KMw.rfw
theorem km_lay {x1_w x2_w x3 v_w : Int32} {c_w c' : dc_M} (h40 : ∀ j, j < 4 → c_w.2.2.1 40 j = 74 + 2 * j) (f_w : d_X9_lay 1 x1_w x2_w x3 c_w = (v_w, c')) : KMw c_w c' := by
  unfold d_X9_lay at f_w
  rw [shk_is] at f_w
  by_cases c1_w : 0 ≤ x1_w.toInt ∧ x1_w.toInt ≤ 3
  · have n1_w := cl_n c1_w.1
    have hj : x1_w.toNatClampNeg < 4 := by omega
    rw [if_pos (fun q_w => (di_ine.mp q_w) c1_w)] at f_w
    rw [show 1 + 39 = 40 from rfl, h40 _ hj] at f_w
    split at f_w
    · split at f_w
      · rw [dc_let_eq] at f_w
        have f_w := (Prod.mk.inj f_w).2
        rw [← f_w, putw]
        exact KMw.rfw.wiw (by omega)
      · cases f_w; exact KMw.rfw
    · cases f_w; exact KMw.rfw
  · rw [if_neg (fun q_w => q_w (di_ine.mpr c1_w))] at f_w
    cases f_w; exact KMw.rfw
theorem RQw.p23 {x1_w : Int32} {c_w m_w c' m' : dc_M} {v_w v' : Int32} (R : RQw c_w m_w) (f_w : d_X9_come 1 x1_w c_w = (v_w, c')) (g_w : d_X10_come 82 x1_w m_w = (v', m')) : v_w = v' ∧ RQw c' m' := by
  obtain ⟨e_w, A_w⟩ := RAw.p23 R.1 f_w g_w
  exact ⟨e_w, R.kmw A_w (km_come f_w)⟩
theorem RQw.p24 {c_w m_w c' m' : dc_M} {v_w v' : Int32} (R : RQw c_w m_w) (f_w : d_X9_undo 1 c_w = (v_w, c')) (g_w : d_X10_undo 82 m_w = (v', m')) : v_w = v' ∧ RQw c' m' := by
  obtain ⟨e_w, A_w⟩ := RAw.p24 R.1 f_w g_w
  exact ⟨e_w, R.kmw A_w (km_undo f_w)⟩
theorem RQw.p26 {x1_w x2_w x3 : Int32} {c_w m_w c' m' : dc_M} {v_w v' : Int32} (h40 : ∀ j, j < 4 → c_w.2.2.1 40 j = 74 + 2 * j) (hl : ∀ j, j < 4 → (c_w.2.2.2 (75 + 2 * j)).2 = 64) (R : RQw c_w m_w) (f_w : d_X9_sheet 1 x1_w x2_w x3 c_w = some (v_w, c')) (g_w : d_X10_sheet 82 x1_w x2_w x3 m_w = some (v', m')) : v_w = v' ∧ RQw c' m' := by
  obtain ⟨e_w, A_w⟩ := RAw.p26 h40 hl R.1 f_w g_w
  exact ⟨e_w, R.kmw A_w (km_sheet h40 hl f_w)⟩
theorem RQw.p27 {x1_w x2_w x3 : Int32} {c_w m_w c' m' : dc_M} {v_w v' : Int32} (h40 : ∀ j, j < 4 → c_w.2.2.1 40 j = 74 + 2 * j) (R : RQw c_w m_w) (f_w : d_X9_lay 1 x1_w x2_w x3 c_w = (v_w, c')) (g_w : d_X10_lay 82 x1_w x2_w x3 m_w = (v', m')) : v_w = v' ∧ RQw c' m' := by
  obtain ⟨e_w, A_w⟩ := RAw.p27 h40 R.1 f_w g_w
  exact ⟨e_w, R.kmw A_w (km_lay h40 f_w)⟩
/-- quarrels: both sides answer alike -/
theorem RQw.p10w {x1_w : Int32} {c_w m_w c' m' : dc_M} {v_w v' : Int32} (len_w : (c_w.2.2.2 10).2 = 512) (l13 : (c_w.2.2.2 13).2 = 64) (hr : ∀ k_w, k_w < 16 → 0 ≤ (m_w.1 86 k_w).toInt ∧ (m_w.1 86 k_w).toInt ≤ 1) (R : RQw c_w m_w) (f_w : d_X9_quarrels 1 x1_w c_w = some (v_w, c')) (g_w : d_X10_quarrels 82 x1_w m_w = some (v', m')) : v_w = v' ∧ RQw c' m' := by
  refine ⟨?_, RQw.q10w len_w l13 R f_w g_w⟩
  have ha_w := md41 R.1.1.1.2.2
  have C0_w := CQm.rqw R len_w l13
  unfold d_X9_quarrels at f_w
  unfold d_X10_quarrels at g_w
  rw [di_in, di_il, show (0 : Int64).toInt = 0 from rfl, show (3 : Int64).toInt = 3 from rfl] at g_w
  by_cases c1_w : 0 ≤ x1_w.toInt ∧ x1_w.toInt ≤ 3
  · rw [if_neg (show ¬ x1_w.toInt < 0 by omega), if_pos c1_w.2] at f_w
    rw [if_pos (fun q_w => (di_ine.mp q_w) c1_w)] at g_w
    cases hq : d_X9_isRight 1 c_w with
    | none => rw [hq] at f_w; cases f_w
    | some q_w =>
      cases hy : d_X10_layRight 82 m_w with
      | none => rw [hy] at g_w; cases g_w
      | some y =>
        rw [hq, Option.bind_some] at f_w
        rw [hy, Option.bind_some] at g_w
        obtain ⟨e_w, R2, e7_w, S_w, k11, C2_w, K2⟩ := RN.rgt len_w hr R.1.1 hq hy
        rw [e_w] at f_w
        by_cases c2_w : ¬ y.1.toInt = 0
        · rw [if_pos c2_w] at f_w g_w
          cases hf : d_X9_findClashes 1 q_w.2 with
          | none => rw [hf] at f_w; cases f_w
          | some q2 =>
            cases hg : d_X10_layQuarrels 82 y.2 with
            | none => rw [hg] at g_w; cases g_w
            | some w_w =>
              rw [hf, Option.bind_some] at f_w
              rw [hg, Option.bind_some] at g_w
              obtain ⟨z1, z2, z3⟩ := fcl_keep hf
              have Q1_w := cq_X9_findClashes (cq_11 hq) (cq_X9_isRight C0_w hq) hf
              have h37 : y.2.1 82 37 = 1 := by
                have i3_w := ir_3 hq
                rcases S_w with ⟨-, -, n, -, -, -, -, s5, s6_w, -⟩ | ⟨w_w, -, -, -, -, s5, s6_w⟩
                · rcases s6_w with s6_w | s6_w
                  · exact absurd (by rw [← e_w, i3_w, s5, s6_w]; rfl) c2_w
                  · exact s6_w
                · exact absurd (by rw [← e_w, i3_w, s5]; rfl) c2_w
              have a7 : q2.2.2.1 1 7 = c_w.2.2.1 1 7 := by rw [z2]; exact e7_w
              have N2 : NR (c_w.2.2.1 1 7) q2 y.2 := by
                have n := R2.2.1
                rw [e7_w] at n
                exact NR.eq n (fun i_w hi_w => funext (fun k_w => z1 _ k_w (by omega) (by omega))) (fun _ _ => rfl) (fun _ _ _ => rfl)
              have S2 : SP 4 (c_w.2.2.1 1 7) q2 y.2 := SP.eq ha_w S_w (fun b_w k_w h1 h2 _ => z1 b_w k_w (by omega) (by omega)) (fun i_w hi_w _ => funext (fun k_w => z1 _ k_w (by omega) (by omega)))
              obtain ⟨w0_w, w1_w, w2_w, w3_w⟩ := qu_cmp Q1_w.2.2.1 z3 a7 N2 S2 h37 hg
              rw [show 1 + 11 = 12 from rfl, w0_w, w1_w, w2_w, w3_w] at f_w
              by_cases d0_w : x1_w.toInt = 0
              · rw [if_pos d0_w] at f_w
                rw [if_neg (fun q_w => q_w d0_w)] at g_w
                cases f_w
                cases g_w
                rfl
              · rw [if_neg d0_w] at f_w
                rw [if_pos d0_w] at g_w
                by_cases d1_w : x1_w.toInt = 1
                · rw [if_pos d1_w] at f_w
                  rw [if_neg (fun q_w => q_w d1_w)] at g_w
                  cases f_w
                  cases g_w
                  rfl
                · rw [if_neg d1_w] at f_w
                  rw [if_pos d1_w] at g_w
                  by_cases d2_w : x1_w.toInt = 2
                  · rw [if_pos d2_w] at f_w
                    rw [if_neg (fun q_w => q_w d2_w)] at g_w
                    cases f_w
                    cases g_w
                    rfl
                  · rw [if_neg d2_w] at f_w
                    rw [if_pos d2_w] at g_w
                    cases f_w
                    cases g_w
                    rfl
        · rw [if_neg c2_w] at f_w g_w
          cases f_w
          cases g_w
          rfl
  · rw [if_neg (fun q_w => q_w (di_ine.mpr c1_w))] at g_w
    by_cases d0_w : x1_w.toInt < 0
    · rw [if_pos d0_w] at f_w
      cases f_w
      cases g_w
      rfl
    · rw [if_neg d0_w, if_neg (show ¬ x1_w.toInt ≤ 3 by omega)] at f_w
      cases f_w
      cases g_w
      rfl
