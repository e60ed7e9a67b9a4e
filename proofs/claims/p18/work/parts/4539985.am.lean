/-! ===== aim: what the class remembers is what the reference lays ===== -/
/-- what gathering leaves alone -/
theorem gsm_keep {m_w e_w : dc_M} (h_w : d_X9_gatherSums 1 m_w = some e_w) : (∀ b k_w, ¬ (15 ≤ b ∧ b ≤ 17) → ¬ (b = 1 ∧ k_w = 13) → e_w.1 b k_w = m_w.1 b k_w) ∧ e_w.2.2 = m_w.2.2 ∧ e_w.1 1 13 ≠ 0 := by
  unfold d_X9_gatherSums at h_w
  by_cases z_w : (m_w.1 1 13).toInt = 0
  · rw [if_neg (fun g_w => g_w z_w), show 1 + 14 = 15 from rfl, show 1 + 3 = 4 from rfl] at h_w
    cases hq : d_X8_gather 15 (m_w.1 (m_w.2.2.1 1 7) 0) 4 m_w with
    | none => rw [hq] at h_w; cases h_w
    | some q1_w =>
      rw [hq, Option.bind_some] at h_w
      obtain ⟨-, f1_w, -, f2_w⟩ := fy_X8_gather (a := 41) (b := 52) (c0 := m_w) rfl ⟨Or.inl ⟨rfl, rfl⟩, fun _ _ _ => rfl, fun _ _ _ => rfl, rfl⟩ hq
      have h_w := Option.some.inj h_w
      rw [← h_w]
      exact ⟨fun b k_w h1 h2 => (wi_k h2).trans (f1_w b k_w h1), f2_w, by rw [wi_s]; decide⟩
  · rw [if_pos z_w] at h_w
    cases h_w
    exact ⟨fun _ _ _ _ => rfl, rfl, fun q_w => z_w (by rw [q_w]; rfl)⟩
theorem ai_cmp {a : Nat} {z_w m_w e_w : dc_M} {x1_w : Int32} (K_w : MSm z_w) (k13 : z_w.1 1 13 ≠ 0) (a7 : z_w.2.2.1 1 7 = a) (N_w : NR a z_w m_w) (S_w : SP 4 a z_w m_w) (hR : m_w.1 82 37 = 1) (hx : 0 ≤ x1_w.toInt ∧ x1_w.toInt < (z_w.1 a 0).toInt) (h_w : d_X10_layAims 82 x1_w m_w = some e_w) : z_w.2.1 16 x1_w.toNatClampNeg = e_w.2.1 82 47 ∧ z_w.2.1 17 x1_w.toNatClampNeg = e_w.2.1 82 48 := by
  obtain ⟨-, c0, c1_w, k2_w, k4_w, k5_w, k6_w, k7_w⟩ := K_w k13
  rw [a7] at k4_w
  rcases S_w with ⟨s1_w, s2_w, n, ⟨n1_w, n2_w⟩, s3_w, s4_w, ⟨g1, g2, RR⟩, s5, s6_w, s7⟩ | ⟨v_w, -, -, -, -, -, s6_w⟩
  · have h40 : (c0.1 4 0).toInt = n := by rw [k2_w 4 0 (by decide) (by decide) (by omega)]; exact s3_w
    have N' := N_w
    obtain ⟨⟨w0_w, ⟨w1_w, w1'⟩, w2_w⟩, -⟩ := N_w
    obtain ⟨Wn, hW⟩ : ∃ Wn : Nat, (z_w.1 a 0).toInt = Wn := ⟨(z_w.1 a 0).toInt.toNat, by omega⟩
    obtain ⟨G_w, -, -⟩ := ga_run n2_w h40 hW (by omega) k4_w
    have xn := cl_n hx.1
    obtain ⟨r1_w, r2, -⟩ := laa_run (n := n) (L := c0.1 7) (A := fun t_w => c0.1 7 t_w ^^^ c0.1 8 t_w) ⟨hx.1, by omega⟩ n2_w (by rw [s4_w]; exact s3_w) (fun t_w ht => by
      rw [k2_w 7 t_w (by decide) (by decide) (by omega)]
      exact (s7 hR t_w ht).1.symm) (fun t_w M_w q_w ht hM_w hq => by
      have l : z_w.1 7 t_w = m_w.1 101 t_w := (s7 hR t_w ht).1
      rw [aims_w hq (fun p_w hp => exq_w N' n2_w ht RR (by rw [hM_w]) (fun j_w => by rw [hM_w]) (fun j_w => by rw [hM_w]) hp), on_n (by omega), hM_w]
      show m_w.1 101 t_w ^^^ z_w.1 8 t_w = c0.1 7 t_w ^^^ c0.1 8 t_w
      rw [k2_w 7 t_w (by decide) (by decide) (by omega), k2_w 8 t_w (by decide) (by decide) (by omega), l]) h_w
    obtain ⟨q1_w, q2_w⟩ := G_w x1_w.toNatClampNeg (by omega)
    exact ⟨(k5_w _).1.symm.trans (q1_w.trans r1_w.symm), (k5_w _).2.symm.trans (q2_w.trans r2.symm)⟩
  · rw [s6_w] at hR
    exact absurd hR (by decide)
theorem aimb_w {s0_w s1_w v_w v' : Int32} {c_w c' m_w m' : dc_M} (f_w : d_X9_aim_b91 s0_w s1_w c_w = some (v_w, c')) (g_w : d_X10_aim_b80 s0_w s1_w m_w = some (v', m')) : v_w = v' := by
  unfold d_X9_aim_b91 d_X9_aim_b105 at f_w
  unfold d_X10_aim_b80 d_X10_aim_b96 at g_w
  by_cases z0 : s0_w.toInt = 0
  · rw [if_pos z0, if_pos z0] at f_w g_w
    by_cases z1 : s1_w.toInt = 0
    · rw [if_pos z1] at f_w g_w
      cases f_w
      cases g_w
      rfl
    · rw [if_neg z1] at f_w g_w
      cases f_w
      cases g_w
      rfl
  · rw [if_neg z0] at f_w g_w
    by_cases z1 : s1_w.toInt = 0
    · rw [if_pos z1, if_neg z0] at f_w g_w
      cases f_w
      cases g_w
      rfl
    · rw [if_neg z1] at f_w g_w
      cases f_w
      cases g_w
      rfl
theorem p2_w {W_w : Int32} (h_w : 0 ≤ W_w.toInt ∧ W_w.toInt ≤ 6) : 1 ≤ ((1 : Int32) <<< (W_w &&& 31)).toInt ∧ ((1 : Int32) <<< (W_w &&& 31)).toInt ≤ 64 := by
  have key_w : ∀ v_w, v_w < 7 → 1 ≤ ((1 : Int32) <<< (Int32.ofNat v_w &&& 31)).toInt ∧ ((1 : Int32) <<< (Int32.ofNat v_w &&& 31)).toInt ≤ 64 := by decide
  have e_w := cl_n h_w.1
  have e1_w : W_w = Int32.ofNat W_w.toNatClampNeg := by
    refine Int32.toInt_inj.mp ?_
    rw [mk_i (by omega)]
    omega
  rw [e1_w]
  exact key_w _ (by omega)
/-- aim: both sides answer alike -/
theorem RQw.p13w {x1_w x2_w : Int32} {c_w m_w c' m' : dc_M} {v_w v' : Int32} (len_w : (c_w.2.2.2 10).2 = 512) (l13 : (c_w.2.2.2 13).2 = 64) (hr : ∀ k_w, k_w < 16 → 0 ≤ (m_w.1 86 k_w).toInt ∧ (m_w.1 86 k_w).toInt ≤ 1) (R_w : RQw c_w m_w) (f_w : d_X9_aim 1 x1_w x2_w c_w = some (v_w, c')) (g_w : d_X10_aim 82 x1_w x2_w m_w = some (v', m')) : v_w = v' ∧ RQw c' m' := by
  refine ⟨?_, RQw.q13w len_w l13 R_w f_w g_w⟩
  have ha_w := md41 R_w.1.1.1.2.2
  have C0_w := CQm.rqw R_w len_w l13
  have N0 : NR (c_w.2.2.1 1 7) c_w m_w := R_w.1.1.2.1
  have n0_w : c_w.1 (c_w.2.2.1 1 7) 0 = m_w.1 82 0 := N0.1.1
  have n6_w : 0 ≤ (c_w.1 (c_w.2.2.1 1 7) 0).toInt ∧ (c_w.1 (c_w.2.2.1 1 7) 0).toInt ≤ 6 := N0.1.2.1
  have e6_w : 0 ≤ (m_w.1 82 0).toInt ∧ (m_w.1 82 0).toInt ≤ 6 := by rw [← n0_w]; exact n6_w
  have P_w := p2_w n6_w
  unfold d_X9_aim at f_w
  unfold d_X10_aim at g_w
  by_cases c0 : 0 ≤ x1_w.toInt ∧ x1_w.toInt < (c_w.1 (c_w.2.2.1 1 7) 0).toInt
  · rw [if_neg (fun q_w => hw_0.mp q_w c0)] at f_w
    rw [if_neg (fun q_w => (iw_0 e6_w).mp q_w (by rw [← n0_w]; exact c0)), ← n0_w] at g_w
    have p_w : ((1 : Int32) <<< (c_w.1 (c_w.2.2.1 1 7) 0 &&& 31) - 1).toInt = ((1 : Int32) <<< (c_w.1 (c_w.2.2.1 1 7) 0 &&& 31)).toInt - 1 := by rw [Int32.toInt_sub, show (1 : Int32).toInt = 1 from rfl, sx_bm (by omega) (by omega)]
    have IN_w : (d_X10_in (Int32.toInt64 x2_w) (0 : Int64) (Int32.toInt64 ((1 : Int32) <<< (c_w.1 (c_w.2.2.1 1 7) 0 &&& 31) - 1)) m_w).toInt = 0 ↔ ¬ (0 ≤ x2_w.toInt ∧ x2_w.toInt < ((1 : Int32) <<< (c_w.1 (c_w.2.2.1 1 7) 0 &&& 31)).toInt) := by
      rw [di_in, di_ine, di_il, di_il, p_w, show (0 : Int64).toInt = 0 from rfl]
      omega
    by_cases c1_w : 0 ≤ x2_w.toInt ∧ x2_w.toInt < ((1 : Int32) <<< (c_w.1 (c_w.2.2.1 1 7) 0 &&& 31)).toInt
    · rw [if_neg (show ¬ x2_w.toInt < 0 by omega), if_pos c1_w.2] at f_w
      rw [if_pos (fun q_w => IN_w.mp q_w c1_w)] at g_w
      cases hq : d_X9_isRight 1 c_w with
      | none => rw [hq] at f_w; cases f_w
      | some q_w =>
        cases hy : d_X10_layRight 82 m_w with
        | none => rw [hy] at g_w; cases g_w
        | some y =>
          rw [hq, Option.bind_some] at f_w
          rw [hy, Option.bind_some] at g_w
          obtain ⟨e_w, R2, e7_w, S_w, k11, C2_w, K2⟩ := RN.rgt len_w hr R_w.1.1 hq hy
          rw [e_w] at f_w
          by_cases c2_w : ¬ y.1.toInt = 0
          · rw [if_pos c2_w] at f_w g_w
            cases hf : d_X9_gatherSums 1 q_w.2 with
            | none => rw [hf] at f_w; cases f_w
            | some q2_w =>
              cases hg : d_X10_layAims 82 x1_w y.2 with
              | none => rw [hg] at g_w; cases g_w
              | some w_w =>
                rw [hf, Option.bind_some] at f_w
                rw [hg, Option.bind_some] at g_w
                obtain ⟨z1, z2, z3⟩ := gsm_keep hf
                have Q1_w := cq_X9_gatherSums (cq_11 hq) (cq_X9_isRight C0_w hq) hf
                have h37 : y.2.1 82 37 = 1 := by
                  have i3_w := ir_3 hq
                  rcases S_w with ⟨-, -, n, -, -, -, -, s5, s6_w, -⟩ | ⟨w_w, -, -, -, -, s5, s6_w⟩
                  · rcases s6_w with s6_w | s6_w
                    · exact absurd (by rw [← e_w, i3_w, s5, s6_w]; rfl) c2_w
                    · exact s6_w
                  · exact absurd (by rw [← e_w, i3_w, s5]; rfl) c2_w
                have a7 : q2_w.2.2.1 1 7 = c_w.2.2.1 1 7 := by rw [z2]; exact e7_w
                have N2 : NR (c_w.2.2.1 1 7) q2_w y.2 := by
                  have n := R2.2.1
                  rw [e7_w] at n
                  exact NR.eq n (fun i_w hi_w => funext (fun k_w => z1 _ k_w (by omega) (by omega))) (fun _ _ => rfl) (fun _ _ _ => rfl)
                have S2 : SP 4 (c_w.2.2.1 1 7) q2_w y.2 := SP.eq ha_w S_w (fun b k_w h1 h2 _ => z1 b k_w (by omega) (by omega)) (fun i_w hi_w _ => funext (fun k_w => z1 _ k_w (by omega) (by omega)))
                have hx : 0 ≤ x1_w.toInt ∧ x1_w.toInt < (q2_w.1 (c_w.2.2.1 1 7) 0).toInt := by
                  rw [N2.1.1, K2 82 0 (by unfold krc; omega), ← n0_w]
                  exact c0
                obtain ⟨w1_w, w2_w⟩ := ai_cmp Q1_w.2.2.2 z3 a7 N2 S2 h37 hx hg
                unfold d_X9_aim_b67 at f_w
                unfold d_X10_aim_b61 at g_w
                rw [show 1 + 14 + 1 = 16 from rfl, show 1 + 14 + 2 = 17 from rfl, w1_w, w2_w] at f_w
                have z01 : ¬ (1 : Int) = (0 : Int64).toInt := by decide
                have z10 : ¬ (0 : Int) = (1 : Int64).toInt := by decide
                rcases l1_w (x := w_w.2.1 82 47 >>> (Int32.toInt64 x2_w &&& 63)) with a1_w | a1_w
                · rw [if_pos (lc_w.mpr (a1_w.trans rfl))] at f_w
                  rw [if_pos (fun q_w => z10 (a1_w.symm.trans (lc_w.mp q_w)))] at g_w
                  rcases l1_w (x := w_w.2.1 82 48 >>> (Int32.toInt64 x2_w &&& 63)) with a2 | a2
                  · rw [if_pos (lc_w.mpr (a2.trans rfl))] at f_w
                    rw [if_pos (fun q_w => z10 (a2.symm.trans (lc_w.mp q_w)))] at g_w
                    exact aimb_w f_w g_w
                  · rw [if_neg (fun q_w => z01 (a2.symm.trans (lc_w.mp q_w)))] at f_w
                    rw [if_neg (fun q_w => q_w (lc_w.mpr (a2.trans rfl)))] at g_w
                    exact aimb_w f_w g_w
                · rw [if_neg (fun q_w => z01 (a1_w.symm.trans (lc_w.mp q_w)))] at f_w
                  rw [if_neg (fun q_w => q_w (lc_w.mpr (a1_w.trans rfl)))] at g_w
                  rcases l1_w (x := w_w.2.1 82 48 >>> (Int32.toInt64 x2_w &&& 63)) with a2 | a2
                  · rw [if_pos (lc_w.mpr (a2.trans rfl))] at f_w
                    rw [if_pos (fun q_w => z10 (a2.symm.trans (lc_w.mp q_w)))] at g_w
                    exact aimb_w f_w g_w
                  · rw [if_neg (fun q_w => z01 (a2.symm.trans (lc_w.mp q_w)))] at f_w
                    rw [if_neg (fun q_w => q_w (lc_w.mpr (a2.trans rfl)))] at g_w
                    exact aimb_w f_w g_w
          · rw [if_neg c2_w] at f_w g_w
            cases f_w
            cases g_w
            rfl
    · rw [if_neg (fun q_w => q_w (IN_w.mpr c1_w))] at g_w
      cases g_w
      by_cases d0_w : x2_w.toInt < 0
      · rw [if_pos d0_w] at f_w
        cases f_w
        rfl
      · rw [if_neg d0_w, if_neg (show ¬ x2_w.toInt < ((1 : Int32) <<< (c_w.1 (c_w.2.2.1 1 7) 0 &&& 31)).toInt by omega)] at f_w
        cases f_w
        rfl
  · rw [if_pos (hw_0.mpr c0)] at f_w
    rw [if_pos ((iw_0 e6_w).mpr (by rw [← n0_w]; exact c0))] at g_w
    cases f_w
    cases g_w
    rfl
