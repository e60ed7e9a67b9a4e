/-! ===== beat: both sides answer alike ===== -/
theorem RGw.cg {E_w P_w : Nat} {fr_w to_w fr' to' : Nat → Nat} {tok : Nat → Bool} {dl : Nat → Int} {m_w : dc_M} (G : RGw E_w P_w fr_w to_w tok dl m_w) (e_w : ∀ p_w, p_w < P_w → fr_w p_w = fr' p_w ∧ to_w p_w = to' p_w) : RGw E_w P_w fr' to' tok dl m_w := by
  obtain ⟨g1, g2, g3_w, g4, g5_w, g6⟩ := G
  refine ⟨g1, g2, fun p_w hp => ?_, g4, g5_w, fun k_w hk => ?_⟩
  · rw [← (e_w p_w hp).1, ← (e_w p_w hp).2]
    exact g3_w p_w hp
  · rw [g6 k_w hk]
    refine not_congr ⟨fun ⟨p_w, p1_w, p2_w⟩ => ⟨p_w, p1_w, ?_⟩, fun ⟨p_w, p1_w, p2_w⟩ => ⟨p_w, p1_w, ?_⟩⟩
    · rw [← (e_w p_w p1_w).2]; exact p2_w
    · rw [(e_w p_w p1_w).2]; exact p2_w
/-- of two equal fractions one closed walk says the same -/
theorem fre_w {N_w D_w up_w down_w w_w t_w : Int} (hD : 1 ≤ D_w) (hd_w : 1 ≤ down_w) (ue : up_w * D_w = N_w * down_w) : (w_w * D_w ≤ N_w * t_w → down_w * w_w - up_w * t_w ≤ 0) ∧ (w_w * D_w = N_w * t_w ↔ down_w * w_w - up_w * t_w = 0) := by
  have e1_w : (down_w * w_w) * D_w = (w_w * D_w) * down_w := by rw [Int.mul_assoc, Int.mul_comm]
  have e2_w : (up_w * t_w) * D_w = (N_w * t_w) * down_w := by rw [Int.mul_right_comm, ue, Int.mul_right_comm]
  refine ⟨fun h_w => ?_, fun h_w => ?_, fun h_w => ?_⟩
  · have a_w := Int.mul_le_mul_of_nonneg_right h_w (show 0 ≤ down_w by omega)
    rw [← e1_w, ← e2_w] at a_w
    have := Int.le_of_mul_le_mul_right a_w (show 0 < D_w by omega)
    omega
  · have a_w : (w_w * D_w) * down_w = (N_w * t_w) * down_w := by rw [h_w]
    rw [← e1_w, ← e2_w] at a_w
    have := Int.eq_of_mul_eq_mul_right (show D_w ≠ 0 by omega) a_w
    omega
  · have a_w : (down_w * w_w) * D_w = (up_w * t_w) * D_w := by rw [show down_w * w_w = up_w * t_w by omega]
    rw [e1_w, e2_w] at a_w
    exact Int.eq_of_mul_eq_mul_right (show down_w ≠ 0 by omega) a_w
theorem RDw.p21w {x1_w : Int32} {c_w m_w c' m' : dc_M} {v_w v' : Int32} (l34 : (c_w.2.2.2 34).2 = 16) (l35 : (c_w.2.2.2 35).2 = 16) (R_w : RDw c_w m_w) (f_w : d_X9_beat 1 x1_w c_w = some (v_w, c')) (g_w : d_X10_beat 82 x1_w m_w = some (v', m')) : v_w = v' ∧ RDw c' m' := by
  refine ⟨?_, RDw.q21w l34 l35 R_w f_w g_w⟩
  unfold d_X9_beat at f_w
  unfold d_X10_beat at g_w
  rw [di_in, di_il, show (0 : Int64).toInt = 0 from rfl, show (2 : Int64).toInt = 2 from rfl] at g_w
  by_cases c2_w : 0 ≤ x1_w.toInt ∧ x1_w.toInt ≤ 2
  · rw [if_neg (show ¬ x1_w.toInt < 0 by omega), if_pos c2_w.2] at f_w
    rw [if_pos (fun q_w => (di_ine.mp q_w) c2_w)] at g_w
    cases hq : d_X9_findRings 1 c_w with
    | none => rw [hq] at f_w; cases f_w
    | some q_w =>
      rw [hq, Option.bind_some, show 1 + 29 = 30 from rfl] at f_w
      obtain ⟨⟨q1_w, q2_w, q3_w⟩, qM, qG, qS⟩ := fr_w l34 l35 R_w hq
      have q7_w : q_w.2.2.1 1 7 = c_w.2.2.1 1 7 := q3_w 1 7 (by omega)
      have ha_w := md41 R_w.1.1.1.2.2
      have Rq : RAw q_w m_w := R_w.1.frf q1_w (fun f_w => q3_w 1 f_w (by omega)) kr_of
      have NRq := Rq.1.2.1
      obtain ⟨E_w, P_w, D_w⟩ := ndw NRq qM.2.1
      cases hg : d_X10_isGraph 82 m_w with
      | none => rw [hg] at g_w; cases g_w
      | some y_w =>
        rw [hg, Option.bind_some] at g_w
        obtain ⟨yq, ym⟩ := y_w
        have ha' : q_w.2.2.1 1 7 = 41 ∨ q_w.2.2.1 1 7 = 52 := by rw [q7_w]; exact ha_w
        have rk : ∀ k_w, k_w < E_w → m_w.1 88 k_w = q_w.1 (q_w.2.2.1 1 7 + 6) k_w ∧ m_w.1 89 k_w = q_w.1 (q_w.2.2.1 1 7 + 7) k_w ∧ m_w.1 90 k_w = q_w.1 (q_w.2.2.1 1 7 + 8) k_w := fun k_w hk => by
          have w_w := NRq.2.1.2.2 k_w (by rw [D_w.1.1]; omega)
          exact ⟨w_w.2.2.2.1.symm, w_w.2.2.2.2.1.symm, w_w.2.2.2.2.2.1.symm⟩
        obtain ⟨k1_w, k2_w, k3_w⟩ := gr_w ha' D_w qG NRq.2.1.1.symm NRq.2.2.1.1.symm NRq.2.2.1.2.2.symm rk hg
        have E16 := D_w.1.2
        rcases k3_w with ⟨z0, z1, fr_w, to_w, od, g1, g2, g3_w, g4⟩ | ⟨z0, z1⟩
        · have z1 : yq = 1 := z1
          rw [if_pos z0] at f_w
          rw [z1, if_pos (show ¬ (1 : Int32).toInt = 0 by decide)] at g_w
          obtain ⟨E'_w, P'_w, fr', to', od', s1_w, s2_w, s3_w, N_w, D', s4_w, s5⟩ := qS z0
          have eE : E'_w = E_w := by have a_w := s1_w.1.1; have b_w := g1.1.1; omega
          have eP : P'_w = P_w := by have a_w := s1_w.2.1.1; have b_w := g1.2.1.1; omega
          rw [eE, eP] at s1_w s3_w s4_w
          rw [eP] at s2_w
          have G := g4.cg (fun p_w hp => ⟨(g2 p_w hp).1.uq (s2_w p_w hp).1, (g2 p_w hp).2.uq (s2_w p_w hp).2⟩)
          have hf : ∀ p_w, p_w < P_w → fr' p_w < E_w ∧ to' p_w < E_w := fun p_w hp => (G.2.2.1 p_w hp).2
          have hd_w := s1_w.2.2.2.2
          have O_w := s3_w.2.2.2
          cases hr : d_X10_hasRing 82 0 1 ym with
          | none => rw [hr] at g_w; cases g_w
          | some w_w =>
            obtain ⟨wv, wm⟩ := w_w
            rw [hr, Option.bind_some] at g_w
            obtain ⟨h1, h2⟩ := @hr_w E_w P_w fr' to' _ _ ym wm 0 1 wv 1 0 G rfl rfl (by decide) (by decide) hr
            have hB_w := s4_w
            rcases s4_w with ⟨b1, b2, b3⟩ | ⟨b1, b2, b3, ⟨e0_w, l0, c1_w, c2', c3_w, -, -⟩, b5⟩
            · have d0_w : (q_w.1 30 2).toInt = 0 := by
                rcases s5 with ⟨-, -, s5⟩ | ⟨n_w, d_w, -, y2, y3, -, -⟩
                · exact s5
                · omega
              rw [if_neg (fun z_w => z_w d0_w)] at f_w
              have wz : wv = 0 := by
                rcases h2 with ⟨-, e_w, l, y1, y2, y3, -⟩ | ⟨y_w, -⟩
                · exact absurd y3 (b3 e_w y1 l y2)
                · exact y_w
              rw [wz, if_neg (fun z_w => z_w rfl)] at g_w
              exact (Prod.mk.inj (Option.some.inj f_w)).1.symm.trans (Prod.mk.inj (Option.some.inj g_w)).1
            · rcases s5 with ⟨s5, -, -⟩ | ⟨n_w, d_w, y1, y2, y3, y4, y5⟩
              · omega
              have g0 : 0 < Nat.gcd n_w d_w := Nat.gcd_pos_of_pos_right n_w y3
              have d1_w : 1 ≤ d_w / Nat.gcd n_w d_w := Nat.div_pos (Nat.le_of_dvd y3 (Nat.gcd_dvd_right n_w d_w)) g0
              rw [if_pos (show ¬ (q_w.1 30 2).toInt = 0 by rw [y5]; omega)] at f_w
              have wz : wv = 1 := by
                rcases h2 with ⟨y_w, -⟩ | ⟨-, y_w⟩
                · exact y_w
                · have a_w := y_w e0_w l0 c1_w c2' c3_w
                  have b_w := (wtw.nn hf hd_w c3_w).1
                  unfold wgw at a_w
                  omega
              rw [wz, if_pos (show ¬ (1 : Int32).toInt = 0 by decide)] at g_w
              obtain ⟨up_w, down_w, zm, kz, UD, gb⟩ := bl_w (G.eqw (fun y_w _ _ => by show wm.1 y_w = _; rw [h1.1])) g_w
              have ue := ud_eq E16 hf hd_w O_w b1.1 hB_w UD
              obtain ⟨u1_w, u2_w, -, -⟩ := UD
              obtain ⟨A_w, hA⟩ : ∃ A_w : Nat, up_w.toInt = A_w := ⟨up_w.toInt.toNat, by omega⟩
              obtain ⟨B_w, hB'⟩ : ∃ B_w : Nat, down_w.toInt = B_w := ⟨down_w.toInt.toNat, by omega⟩
              have nat_w : n_w * B_w = A_w * d_w := by
                have e_w := ue
                rw [hA, hB', y1, y2] at e_w
                exact Int.ofNat.inj (by rw [Int.ofNat_eq_natCast, Int.ofNat_eq_natCast, Int.natCast_mul, Int.natCast_mul]; exact e_w.symm)
              obtain ⟨r1_w, r2⟩ := frac_w y3 (show 0 < B_w by omega) nat_w
              unfold d_X10_beat_b124 at gb
              cases hv : d_X10_divisor up_w down_w zm with
              | none => rw [hv] at gb; cases gb
              | some dv =>
                rw [hv, Option.bind_some] at gb
                have dq := dv_w hA hB' (by omega) (by omega) hv
                have gB : 0 < Nat.gcd A_w B_w := Nat.gcd_pos_of_pos_right A_w (show 0 < B_w by omega)
                by_cases w2_w : 2 ≤ x1_w.toInt
                · rw [if_pos (show ¬ x1_w.toInt = 0 by omega), if_pos (show ¬ x1_w.toInt = 1 by omega)] at f_w
                  rw [if_pos w2_w] at gb
                  have fv := (Prod.mk.inj (Option.some.inj f_w)).1
                  cases hl : d_X10_layWays 82 (Int32.toInt64 down_w) (Int32.toInt64 up_w) 0 zm with
                  | none => rw [hl] at gb; cases gb
                  | some e_w =>
                    rw [hl, Option.bind_some] at gb
                    have Gz : RGw E_w P_w fr' to' (fun p_w => b32 (q_w.1 (q_w.2.2.1 1 7) 13) p_w) (fun e_w => (q_w.1 (q_w.2.2.1 1 7 + 8) e_w).toInt) zm := G.eqw (fun y_w _ _ => by rw [kz.1, h1.1])
                    obtain ⟨k1', k2', k3'⟩ := @lwg_w E_w P_w fr' to' _ _ zm e_w (Int32.toInt64 down_w) (Int32.toInt64 up_w) down_w.toInt up_w.toInt Gz (by rw [di_il]) (by rw [di_il]) ⟨by omega, u2_w.2⟩ ⟨u1_w.1, by omega⟩ hl
                    have hE : (e_w.1 82 3).toInt = E_w := by rw [k1'.1]; exact Gz.1.1
                    obtain ⟨-, bits_w⟩ := b167_w hE E16 gb
                    have dg : ∀ a_w, a_w < E_w → wyw e_w a_w a_w ≤ 0 := fun a_w ha_w => by
                      rcases k2' a_w a_w ha_w ha_w with z_w | ⟨l, l1, l2, l3⟩
                      · rw [z_w]; decide
                      · rw [l3]
                        exact (fre_w b1.1 u2_w.1 ue).1 (b3 a_w ha_w l l1 l2)
                    rw [← fv]
                    refine b32_ext (fun b_w hb_w => Bool.eq_iff_iff.mpr ?_)
                    rw [b5 b_w hb_w, bits_w b_w hb_w]
                    constructor
                    · rintro ⟨p1_w, l, p2_w, p3, p4⟩
                      refine ⟨p1_w, ?_⟩
                      have a_w := (k3' dg b_w b_w l p1_w p1_w p2_w p3).2
                      have z_w : wgw fr' (fun p_w => b32 (q_w.1 (q_w.2.2.1 1 7) 13) p_w) (fun e_w => (q_w.1 (q_w.2.2.1 1 7 + 8) e_w).toInt) down_w.toInt up_w.toInt l = 0 := (fre_w b1.1 u2_w.1 ue).2.mp p4
                      have := dg b_w p1_w
                      omega
                    · rintro ⟨p1_w, p2_w⟩
                      refine ⟨p1_w, ?_⟩
                      rcases k2' b_w b_w p1_w p1_w with z_w | ⟨l, l1, l2, l3⟩
                      · rw [z_w] at p2_w; exact absurd p2_w (by decide)
                      · rw [l3] at p2_w
                        exact ⟨l, l1, l2, (fre_w b1.1 u2_w.1 ue).2.mpr p2_w⟩
                · rw [if_neg w2_w] at gb
                  by_cases w0_w : x1_w.toInt = 0
                  · rw [if_neg (fun z_w => z_w w0_w)] at f_w gb
                    rw [← (Prod.mk.inj (Option.some.inj f_w)).1, ← (Prod.mk.inj (Option.some.inj gb)).1]
                    refine Int32.toInt_inj.mp ?_
                    rw [y4, qu_w hA dq (by omega) gB, r1_w]
                  · rw [if_pos w0_w] at f_w gb
                    rw [if_neg (show ¬ ¬ x1_w.toInt = 1 by omega)] at f_w
                    rw [← (Prod.mk.inj (Option.some.inj f_w)).1, ← (Prod.mk.inj (Option.some.inj gb)).1]
                    refine Int32.toInt_inj.mp ?_
                    rw [y5, qu_w hB' dq (by omega) gB, r2]
        · have z1 : yq = 0 := z1
          rw [if_neg (fun z_w => z_w z0)] at f_w
          rw [z1, if_neg (fun z_w => z_w rfl)] at g_w
          exact (Prod.mk.inj (Option.some.inj f_w)).1.symm.trans (Prod.mk.inj (Option.some.inj g_w)).1
  · rw [if_neg (fun q_w => q_w (di_ine.mpr c2_w))] at g_w
    have g_w := (Prod.mk.inj (Option.some.inj g_w)).1
    by_cases c3_w : x1_w.toInt < 0
    · rw [if_pos c3_w] at f_w
      exact (Prod.mk.inj (Option.some.inj f_w)).1.symm.trans g_w
    · rw [if_neg c3_w, if_neg (show ¬ x1_w.toInt ≤ 2 by omega)] at f_w
      exact (Prod.mk.inj (Option.some.inj f_w)).1.symm.trans g_w
