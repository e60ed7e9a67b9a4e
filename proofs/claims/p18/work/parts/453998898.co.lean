/-! ===== cost: both sides answer alike ===== -/
theorem SP.emw {x_w a_w : Nat} {z_w m_w m' : dc_M} (S_w : SP x_w a_w z_w m_w) (e_w : ∀ k_w, k_w = 32 ∨ k_w = 33 ∨ k_w = 37 → m'.1 82 k_w = m_w.1 82 k_w) (e2_w : ∀ b_w, 99 ≤ b_w → b_w ≤ 101 → m'.1 b_w = m_w.1 b_w) : SP x_w a_w z_w m' := by
  unfold SP
  rw [e_w 32 (by omega), e_w 33 (by omega), e_w 37 (by omega), e2_w 99 (by omega) (by omega), e2_w 100 (by omega) (by omega), e2_w 101 (by omega) (by omega)]
  exact S_w
theorem laf_w {x_w : Int32} {m_w e_w : dc_M} (h_w : d_X10_layAims 82 x_w m_w = some e_w) : e_w.1 = m_w.1 := by
  unfold d_X10_layAims d_X10_layAims_l12 at h_w
  refine dc_lp_inv (s := ((0 : Int32), dc_wl (dc_wl m_w 82 47 0) 82 48 0)) (fun s : Int32 × dc_M => s.2.1 = m_w.1) (fun e_w => e_w.1 = m_w.1) (fun s s' hI hs => ?_) (fun s u_w hI hs => ?_) rfl h_w
  · have hs : d_X10_layAims_l12b 82 x_w s.1 s.2 = some (.inl s') := hs
    unfold d_X10_layAims_l12b at hs
    split at hs
    · cases hs
    · obtain ⟨q_w, -, hs⟩ := Option.bind_eq_some_iff.mp hs
      split at hs
      · have hs := Sum.inl.inj (Option.some.inj hs)
        rw [← hs]; exact hI
      · have hs := Sum.inl.inj (Option.some.inj hs)
        rw [← hs]; exact hI
  · have hs : d_X10_layAims_l12b 82 x_w s.1 s.2 = some (.inr u_w) := hs
    unfold d_X10_layAims_l12b at hs
    split at hs
    · have hs := Sum.inr.inj (Option.some.inj hs)
      rw [← hs]; exact hI
    · obtain ⟨q_w, -, hs⟩ := Option.bind_eq_some_iff.mp hs
      split at hs <;> cases hs
/-- what the class's loop leaves of the states and the net -/
def ICw (a_w b_w : Nat) (c_w q_w z_w : dc_M) : Prop := CQm a_w b_w c_w z_w ∧ SVw z_w ∧ (∀ x_w k_w, ¬ (15 ≤ x_w ∧ x_w ≤ 29) → ¬ (x_w = 1 ∧ k_w = 13) → z_w.1 x_w k_w = q_w.1 x_w k_w)
/-- the class asks whether a_w wire can be made -/
theorem cbm_w {a_w b_w : Nat} {c_w q_w z_w : dc_M} {w_w : Nat} {p_w : Int32 × dc_M} (I_w : ICw a_w b_w c_w q_w z_w) (k11 : q_w.1 1 11 ≠ 0) (rt : ¬ (q_w.1 4 3).toInt = 0) (h_w : d_X9_canBeMade 1 (Int32.ofNat w_w) z_w = some p_w) (hw : w_w < 6) : ICw a_w b_w c_w q_w p_w.2 ∧ p_w.2.1 1 13 ≠ 0 ∧ ((¬ p_w.1.toInt = 0 ∧ p_w.2.2.1 16 w_w &&& p_w.2.2.1 17 w_w = 0) ∨ (p_w.1.toInt = 0 ∧ ¬ p_w.2.2.1 16 w_w &&& p_w.2.2.1 17 w_w = 0)) := by
  obtain ⟨C_w, V, F_w⟩ := I_w
  have z11 : z_w.1 1 11 ≠ 0 := by rw [F_w 1 11 (by omega) (by omega)]; exact k11
  have ir : d_X9_isRight 1 z_w = some (z_w.1 4 3, z_w) := by
    unfold d_X9_isRight d_X9_explore
    rw [if_pos (show ¬ (z_w.1 1 11).toInt = 0 from fun q_w => z11 (Int32.toInt_inj.mp q_w))]
    rfl
  unfold d_X9_canBeMade at h_w
  rw [ir, Option.bind_some] at h_w
  have z43_w : z_w.1 4 3 = q_w.1 4 3 := F_w 4 3 (by omega) (by omega)
  rw [if_pos (show ¬ (z_w.1 4 3).toInt = 0 by rw [z43_w]; exact rt)] at h_w
  obtain ⟨g_w, hg, h_w⟩ := Option.bind_eq_some_iff.mp h_w
  obtain ⟨g1, g2, g3_w⟩ := gsm_keep hg
  have Cg := cq_X9_gatherSums z11 C_w hg
  have Vg := sv_X9_gatherSums ⟨C_w.1, V⟩ hg
  have Ig : ICw a_w b_w c_w q_w g_w := ⟨Cg, Vg.2, fun x_w k_w h1 h2 => (g1 x_w k_w (by omega) (by omega)).trans (F_w x_w k_w h1 h2)⟩
  unfold d_X8_hasUnlikeAims at h_w
  rw [on_n (show w_w < 1000 by omega), show 1 + 14 + 1 = 16 from rfl, show 1 + 14 + 2 = 17 from rfl] at h_w
  by_cases s : g_w.2.1 16 w_w &&& g_w.2.1 17 w_w = 0
  · rw [if_pos (cz_w.mpr s), if_neg (show ¬ ¬ (0 : Int32).toInt = 0 by decide)] at h_w
    have h_w := Option.some.inj h_w
    rw [← h_w]
    exact ⟨Ig, g3_w, Or.inl ⟨by show ¬ (1 : Int32).toInt = 0; decide, s⟩⟩
  · rw [if_neg (fun q_w => s (cz_w.mp q_w)), if_pos (show ¬ (1 : Int32).toInt = 0 by decide)] at h_w
    have h_w := Option.some.inj h_w
    rw [← h_w]
    exact ⟨Ig, g3_w, Or.inr ⟨rfl, s⟩⟩
theorem RSw.p16w {c_w m_w c' m' : dc_M} {v_w v' : Int32} (len_w : (c_w.2.2.2 10).2 = 512) (l13 : (c_w.2.2.2 13).2 = 64) (hr : ∀ k_w, k_w < 16 → 0 ≤ (m_w.1 86 k_w).toInt ∧ (m_w.1 86 k_w).toInt ≤ 1) (R_w : RSw c_w m_w) (f_w : d_X9_cost 1 c_w = some (v_w, c')) (g_w : d_X10_cost 82 m_w = some (v', m')) : v_w = v' ∧ RSw c' m' := by
  refine ⟨?_, RSw.q16w len_w l13 R_w f_w g_w⟩
  have ha_w := md41 R_w.1.1.1.1.2.2
  have C0_w := CQm.rqw R_w.1 len_w l13
  unfold d_X9_cost at f_w
  unfold d_X10_cost at g_w
  obtain ⟨q_w, hq, f_w⟩ := Option.bind_eq_some_iff.mp f_w
  obtain ⟨y_w, hy, g_w⟩ := Option.bind_eq_some_iff.mp g_w
  obtain ⟨e_w, R2, e7_w, S_w, k11, C2_w, K2⟩ := RN.rgt len_w hr R_w.1.1.1 hq hy
  have i3_w := ir_3 hq
  rw [e_w] at f_w
  by_cases c2_w : ¬ y_w.1.toInt = 0
  · rw [if_pos c2_w] at f_w g_w
    have rt : ¬ (q_w.2.1 4 3).toInt = 0 := by rw [← i3_w, e_w]; exact c2_w
    have N2 : NR (c_w.2.2.1 1 7) q_w.2 y_w.2 := by
      have n_w := R2.2.1
      rw [e7_w] at n_w
      exact n_w
    have S0_w := S_w
    rcases S_w with ⟨-, -, n_w, ⟨n1_w, n2_w⟩, s3_w, s4_w, ⟨-, -, RR⟩, s5, s6_w, s7⟩ | ⟨w_w, -, -, -, -, s5, s6_w⟩
    · have h37 : y_w.2.1 82 37 = 1 := by
        rcases s6_w with s6_w | s6_w
        · exact absurd (by rw [s5, s6_w]; rfl) rt
        · exact s6_w
      obtain ⟨Wn, hWn⟩ : ∃ Wn : Nat, (q_w.2.1 (c_w.2.2.1 1 7) 0).toInt = Wn := ⟨(q_w.2.1 (c_w.2.2.1 1 7) 0).toInt.toNat, by have := N2.1.2.1.1; omega⟩
      have w6_w : Wn ≤ 6 := by have := N2.1.2.1.2; omega
      have hL : ∀ t, t < n_w → ∀ j_w, Wn ≤ j_w → j_w < 32 → b32 (q_w.2.1 7 t) j_w = false := fun t ht j_w h1 h2 => by
        have s := s7 h37 t ht
        rw [show q_w.2.1 7 t = y_w.2.1 101 t from s.1]
        exact s.2 j_w (by rw [hWn]; omega) h2
      obtain ⟨u_w, hu, g_w⟩ := Option.bind_eq_some_iff.mp g_w
      obtain ⟨KR_w, QQ⟩ := lqo_w N2 n2_w (by rw [s4_w]; exact s3_w) hWn RR (fun t ht => (s7 h37 t ht).1.symm) hL hu
      have I0_w : ICw (c_w.2.2.1 1 7) (c_w.2.2.1 1 8) c_w q_w.2 q_w.2 := ⟨cq_X9_isRight C0_w hq, (sv_X9_isRight (SVm.rsw R_w len_w) hq).2, fun _ _ _ _ => rfl⟩
      -- what is known_w of the class's memory
      have known_w : ∀ z_w : dc_M, ICw (c_w.2.2.1 1 7) (c_w.2.2.1 1 8) c_w q_w.2 z_w → (z_w.2.2.1 1 7 = c_w.2.2.1 1 7 ∧ (∀ i_w, i_w ≤ 10 → z_w.1 (c_w.2.2.1 1 7 + i_w) = q_w.2.1 (c_w.2.2.1 1 7 + i_w)) ∧ NR (c_w.2.2.1 1 7) z_w y_w.2 ∧ SP 4 (c_w.2.2.1 1 7) z_w y_w.2) ∧ (z_w.1 1 13 ≠ 0 → z_w.1 15 6 = Int32.ofNat Wn ∧ (z_w.1 15 7).toInt = ((3 ^ Wn : Nat) : Int) ∧ ∀ w_w, w_w < Wn → (z_w.2.1 16 w_w &&& z_w.2.1 17 w_w = 0 ↔ ¬ QUw (q_w.2.1 7) (q_w.2.1 8) n_w w_w) ∧ ∀ l, mk_bt (z_w.2.1 16 w_w) l = true → l < 2 ^ Wn) := fun z_w I_w => by
        obtain ⟨C_w, V, F_w⟩ := I_w
        have za : ∀ i_w, i_w ≤ 10 → z_w.1 (c_w.2.2.1 1 7 + i_w) = q_w.2.1 (c_w.2.2.1 1 7 + i_w) := fun i_w hi_w => funext (fun k_w => F_w _ k_w (by omega) (by omega))
        have a7 : z_w.2.2.1 1 7 = c_w.2.2.1 1 7 := C_w.1.2.1
        have e78 : z_w.1 7 = q_w.2.1 7 ∧ z_w.1 8 = q_w.2.1 8 := ⟨funext (fun k_w => F_w 7 k_w (by omega) (by omega)), funext (fun k_w => F_w 8 k_w (by omega) (by omega))⟩
        refine ⟨⟨a7, za, NR.eq N2 za (fun _ _ => rfl) (fun _ _ _ => rfl), SP.eq ha_w S0_w (fun b_w k_w h1 h2 _ => F_w b_w k_w (by omega) (by omega)) (fun i_w hi_w _ => za i_w hi_w)⟩, fun k13 => ?_⟩
        have A_w := msa_w C_w.2.2.2 k13 a7 (by rw [show z_w.1 (c_w.2.2.1 1 7) = q_w.2.1 (c_w.2.2.1 1 7) from za 0 (by omega)]; exact hWn) w6_w n2_w (by rw [F_w 4 0 (by omega) (by omega)]; exact s3_w) (fun t ht => by rw [e78.1]; exact hL t ht)
        rw [e78.1, e78.2] at A_w
        exact A_w
      have mk_ : ∀ (z_w : dc_M) (w_w : Nat), ICw (c_w.2.2.1 1 7) (c_w.2.2.1 1 8) c_w q_w.2 z_w → w_w < Wn → ((d_X3_isMade (c_w.2.2.1 1 7) (Int32.ofNat w_w) z_w).toInt = 0 ↔ ¬ 0 < (q_w.2.1 (c_w.2.2.1 1 7 + 2) w_w).toInt) := fun z_w w_w I_w hw => by
        obtain ⟨⟨-, za, N_w, -⟩, -⟩ := known_w z_w I_w
        have z0 : z_w.1 (c_w.2.2.1 1 7) 0 = q_w.2.1 (c_w.2.2.1 1 7) 0 := by rw [show z_w.1 (c_w.2.2.1 1 7) = q_w.2.1 (c_w.2.2.1 1 7) from za 0 (by omega)]
        rw [made_0 N_w.2.2.2.2.2, on_n (show w_w < 1000 by omega), mk_i (by omega), z0, hWn, za 2 (by omega)]
        constructor
        · intro h_w k_w; exact h_w ⟨⟨by omega, by omega⟩, k_w⟩
        · intro h_w k_w; exact h_w k_w.2
      have z0w : ∀ z_w : dc_M, ICw (c_w.2.2.1 1 7) (c_w.2.2.1 1 8) c_w q_w.2 z_w → z_w.2.2.1 1 7 = c_w.2.2.1 1 7 ∧ (z_w.1 (c_w.2.2.1 1 7) 0).toInt = Wn := fun z_w I_w => by
        obtain ⟨⟨a7, za, -, -⟩, -⟩ := known_w z_w I_w
        exact ⟨a7, by rw [show z_w.1 (c_w.2.2.1 1 7) = q_w.2.1 (c_w.2.2.1 1 7) from za 0 (by omega)]; exact hWn⟩
      -- a_w wire solved
      have slv : ∀ (z_w u_w : dc_M) (w_w : Nat), ICw (c_w.2.2.1 1 7) (c_w.2.2.1 1 8) c_w q_w.2 z_w → w_w < Wn → z_w.1 1 13 ≠ 0 → d_X8_solve 15 (Int32.ofNat w_w) z_w = some u_w → ICw (c_w.2.2.1 1 7) (c_w.2.2.1 1 8) c_w q_w.2 u_w ∧ u_w.1 1 13 ≠ 0 ∧ b32 (u_w.1 15 8) w_w = true ∧ u_w.2.1 16 w_w = z_w.2.1 16 w_w ∧ u_w.2.1 17 w_w = z_w.2.1 17 w_w := fun z_w u_w w_w I_w hw k13 hs => by
        obtain ⟨C_w, V, F_w⟩ := I_w
        have Vu := svs_w (show w_w < 6 by omega) V hs
        have Cu := cq_X8_solve rfl C_w hs
        rcases sof_w (show w_w < 6 by omega) hs with ⟨b8, ue⟩ | ⟨b8, e8, e19_w, eb, e15_w, el, -⟩
        · rw [ue]
          exact ⟨⟨C_w, V, F_w⟩, k13, b8, rfl, rfl⟩
        · refine ⟨⟨Cu, Vu, fun x_w k_w h1 h2 => (eb x_w k_w (by omega) (by omega)).trans (F_w x_w k_w h1 h2)⟩, by rw [eb 1 13 (by decide) (by decide)]; exact k13, ?_, el 16 w_w (by omega), el 17 w_w (by omega)⟩
          rw [e8, b32_or, b32_1 ⟨by rw [mk_i (by omega)]; omega, by rw [mk_i (by omega)]; omega⟩ (by omega), on_n (by omega), decide_eq_true rfl, Bool.or_true]
      rcases QQ with ⟨q40, nq⟩ | ⟨q40, wq, wq1, wq2, wq3⟩
      · -- no quarrel: sums
        rw [if_pos (by omega)] at g_w
        unfold d_X9_cost_l14 at f_w
        unfold d_X10_cost_l28 at g_w
        obtain ⟨IM, hIM⟩ : ∃ IM : dc_M → Prop, ∀ t, IM t ↔ ((∀ x_w, x_w ≠ 82 → ¬ (103 ≤ x_w ∧ x_w ≤ 109) → t.1 x_w = y_w.2.1 x_w) ∧ ∀ k_w, ¬ (39 ≤ k_w ∧ k_w ≤ 42) → k_w ≠ 49 → k_w ≠ 57 → k_w ≠ 58 → t.1 82 k_w = y_w.2.1 82 k_w) := ⟨_, fun _ => Iff.rfl⟩
        have IM0 : IM u_w := (hIM u_w).mpr ⟨fun x_w hx _ => funext (fun k_w => KR_w.1 x_w k_w (by omega)), fun k_w hk _ _ _ => KR_w.1 82 k_w (by omega)⟩
        have w82 : y_w.2.1 82 0 = Int32.ofNat Wn := by
          rw [← N2.1.1]
          refine Int32.toInt_inj.mp ?_
          rw [hWn, mk_i (by omega)]
        have k84 : ∀ w_w, w_w < Wn → y_w.2.1 84 w_w = q_w.2.1 (c_w.2.2.1 1 7 + 2) w_w := fun w_w hw => ((N2.1.2.2 w_w (by omega)).2).symm
        refine (dc_lp_sim (s := ((0 : Int32), (0 : Int32), q_w.2)) (t := ((0 : Int32), (0 : Int32), u_w)) (fun (s : Int32 × Int32 × dc_M) (t : Int32 × Int32 × dc_M) => ∃ w_w : Nat, w_w ≤ Wn ∧ s.1 = t.1 ∧ s.2.1 = Int32.ofNat w_w ∧ t.2.1 = Int32.ofNat w_w ∧ ICw (c_w.2.2.1 1 7) (c_w.2.2.1 1 8) c_w q_w.2 s.2.2 ∧ IM t.2.2) (fun (e_w : Int32 × dc_M) (e' : Int32 × dc_M) => e_w.1 = e'.1) (fun s t X_w Y hI hs ht => ?_) ⟨0, Nat.zero_le _, rfl, rfl, rfl, I0_w, IM0⟩ f_w g_w : (v_w, c').1 = (v', m').1)
        obtain ⟨w_w, i1_w, i2_w, i3_w, i4_w, i5_w, i6_w⟩ := hI
        obtain ⟨sa_w, sb_w, z_w⟩ := s
        obtain ⟨ta, tb_w, t⟩ := t
        have i2_w : sa_w = ta := i2_w
        have i3_w : sb_w = Int32.ofNat w_w := i3_w
        have i4_w : tb_w = Int32.ofNat w_w := i4_w
        have i5_w : ICw (c_w.2.2.1 1 7) (c_w.2.2.1 1 8) c_w q_w.2 z_w := i5_w
        have i6_w : IM t := i6_w
        obtain ⟨t1_w, t2_w⟩ := (hIM t).mp i6_w
        have hs : d_X9_cost_l14b 1 sa_w sb_w z_w = some X_w := hs
        have ht : d_X10_cost_l28b 82 ta tb_w t = some Y := ht
        obtain ⟨a7, z0⟩ := z0w z_w i5_w
        have t0_w : t.1 82 0 = Int32.ofNat Wn := (t2_w 0 (by omega) (by omega) (by omega) (by omega)).trans w82
        unfold d_X9_cost_l14b at hs
        unfold d_X10_cost_l28b at ht
        rw [a7, i3_w, z0, mk_i (by omega)] at hs
        rw [i4_w, t0_w, mk_i (by omega), mk_i (by omega), on_n (show w_w < 1000 by omega), show 82 + 2 = 84 from rfl, t1_w 84 (by decide) (by decide)] at ht
        by_cases c1_w : (Wn : Int) ≤ w_w
        · rw [if_pos c1_w] at hs ht
          exact Or.inr ⟨_, _, (Option.some.inj hs).symm, (Option.some.inj ht).symm, i2_w⟩
        · rw [if_neg c1_w] at hs ht
          have hw : w_w < Wn := by omega
          have mk_w := mk_ z_w w_w i5_w hw
          have n1_w : Int32.ofNat w_w + 1 = Int32.ofNat (w_w + 1) := on_1 (by omega)
          rw [k84 w_w hw] at ht
          rw [n1_w] at hs ht
          by_cases c3_w : 0 < (q_w.2.1 (c_w.2.2.1 1 7 + 2) w_w).toInt
          · rw [if_pos (fun z_w => mk_w.mp z_w c3_w)] at hs
            rw [if_neg (by omega)] at ht
            obtain ⟨p_w, hp, hs⟩ := Option.bind_eq_some_iff.mp hs
            obtain ⟨Ip, p13_w, pr⟩ := cbm_w i5_w k11 rt hp (show w_w < 6 by omega)
            obtain ⟨⟨pa7, pza, pN, pS⟩, pk_w⟩ := known_w p_w.2 Ip
            obtain ⟨k6_w, k7_w, k8_w⟩ := pk_w p13_w
            have dj := (k8_w w_w hw).1.mpr (nq w_w hw c3_w)
            have pr' : ¬ p_w.1.toInt = 0 := by
              rcases pr with ⟨w1_w, -⟩ | ⟨-, w2_w⟩
              · exact w1_w
              · exact absurd dj w2_w
            rw [if_pos pr'] at hs
            obtain ⟨z2, hz2, hs⟩ := Option.bind_eq_some_iff.mp hs
            obtain ⟨I2_w, j13_w, j8_w, j16_w, j17_w⟩ := slv p_w.2 z2 w_w Ip hw p13_w hz2
            obtain ⟨-, zk⟩ := known_w z2 I2_w
            obtain ⟨m6_w, m7_w, m8_w⟩ := zk j13_w
            obtain ⟨L_w, LS_w, L19, -⟩ := I2_w.2.1 j13_w w_w (by omega) j8_w Wn m6_w hw w6_w m7_w (by rw [j16_w, j17_w]; exact dj) (m8_w w_w hw).2
            obtain ⟨ya, hya, ht⟩ := Option.bind_eq_some_iff.mp ht
            obtain ⟨yb, hyb, ht⟩ := Option.bind_eq_some_iff.mp ht
            have f1_w := laf_w hya
            have tN_w : NR (c_w.2.2.1 1 7) p_w.2 t := NR.eq pN (fun _ _ => rfl) (fun k_w hk => t2_w k_w (by omega) (by omega) (by omega) (by omega)) (fun b_w h1 h2 => t1_w b_w (by omega) (by omega))
            have tS : SP 4 (c_w.2.2.1 1 7) p_w.2 t := pS.emw (fun k_w hk => t2_w k_w (by omega) (by omega) (by omega) (by omega)) (fun b_w h1 h2 => t1_w b_w (by omega) (by omega))
            obtain ⟨o1, o2⟩ := @ai_cmp (c_w.2.2.1 1 7) p_w.2 t ya (Int32.ofNat w_w) Ip.1.2.2.2 p13_w pa7 tN_w tS (by rw [t2_w 37 (by omega) (by omega) (by omega) (by omega)]; exact h37) (by rw [mk_i (by omega), (z0w p_w.2 Ip).2]; omega) hya
            rw [on_n (show w_w < 1000 by omega)] at o1 o2
            obtain ⟨b1, b2, b3, -⟩ := lmx_w (by rw [f1_w]; exact t0_w) w6_w (by rw [← o1, ← o2, ← j16_w, ← j17_w]; exact LS_w) hyb
            refine Or.inl ⟨_, _, (Option.some.inj hs).symm, (Option.some.inj ht).symm, w_w + 1, hw, ?_, rfl, rfl, I2_w, (hIM yb).mpr ⟨fun x_w h1 h2 => ?_, fun k_w h1 h2 h3 h4 => ?_⟩⟩
            · rw [on_n (show w_w < 1000 by omega)]
              show sa_w + z2.1 19 w_w = ta + yb.1 82 58
              rw [L19, b1, i2_w]
            · rw [b2 x_w h1 h2, f1_w]; exact t1_w x_w h1 h2
            · rw [b3 k_w h2 h3 h4, f1_w]; exact t2_w k_w h1 h2 h3 h4
          · rw [if_neg (fun z_w => z_w (mk_w.mpr c3_w))] at hs
            rw [if_pos (by omega)] at ht
            exact Or.inl ⟨_, _, (Option.some.inj hs).symm, (Option.some.inj ht).symm, w_w + 1, hw, i2_w, rfl, rfl, i5_w, i6_w⟩
      · -- a_w quarrel
        rw [if_neg (by omega)] at g_w
        have gv := (Prod.mk.inj (Option.some.inj g_w)).1
        unfold d_X9_cost_l14 at f_w
        refine dc_lp_inv (s := ((0 : Int32), (0 : Int32), q_w.2)) (fun s : Int32 × Int32 × dc_M => ∃ w_w : Nat, w_w ≤ Wn ∧ s.2.1 = Int32.ofNat w_w ∧ ICw (c_w.2.2.1 1 7) (c_w.2.2.1 1 8) c_w q_w.2 s.2.2 ∧ ∀ x_w, x_w < w_w → 0 < (q_w.2.1 (c_w.2.2.1 1 7 + 2) x_w).toInt → ¬ QUw (q_w.2.1 7) (q_w.2.1 8) n_w x_w) (fun r_w : Int32 × dc_M => (v_w, c') = r_w → v_w = v') (fun s s' hI hs => ?_) (fun s r_w hI hs => ?_) ⟨0, Nat.zero_le _, rfl, I0_w, fun x_w hx => absurd hx (Nat.not_lt_zero x_w)⟩ f_w rfl
        · obtain ⟨w_w, i1_w, i2_w, i3_w, i4_w⟩ := hI
          obtain ⟨sa_w, sb_w, z_w⟩ := s
          have i2_w : sb_w = Int32.ofNat w_w := i2_w
          have i3_w : ICw (c_w.2.2.1 1 7) (c_w.2.2.1 1 8) c_w q_w.2 z_w := i3_w
          have hs : d_X9_cost_l14b 1 sa_w sb_w z_w = some (.inl s') := hs
          obtain ⟨a7, z0⟩ := z0w z_w i3_w
          unfold d_X9_cost_l14b at hs
          rw [a7, i2_w, z0, mk_i (by omega)] at hs
          by_cases c1_w : (Wn : Int) ≤ w_w
          · rw [if_pos c1_w] at hs; cases hs
          · rw [if_neg c1_w, on_1 (show w_w < 1000 by omega)] at hs
            have hw : w_w < Wn := by omega
            have mk_w := mk_ z_w w_w i3_w hw
            by_cases c3_w : 0 < (q_w.2.1 (c_w.2.2.1 1 7 + 2) w_w).toInt
            · rw [if_pos (fun z_w => mk_w.mp z_w c3_w)] at hs
              obtain ⟨p_w, hp, hs⟩ := Option.bind_eq_some_iff.mp hs
              obtain ⟨Ip, p13_w, pr⟩ := cbm_w i3_w k11 rt hp (show w_w < 6 by omega)
              obtain ⟨-, pk_w⟩ := known_w p_w.2 Ip
              obtain ⟨-, -, k8_w⟩ := pk_w p13_w
              rcases pr with ⟨w1_w, w2_w⟩ | ⟨w1_w, w2_w⟩
              · rw [if_pos w1_w] at hs
                obtain ⟨z2, hz2, hs⟩ := Option.bind_eq_some_iff.mp hs
                obtain ⟨I2_w, -⟩ := slv p_w.2 z2 w_w Ip hw p13_w hz2
                have hs := Sum.inl.inj (Option.some.inj hs)
                rw [← hs]
                refine ⟨w_w + 1, hw, rfl, I2_w, fun x_w hx hk => ?_⟩
                by_cases e_w : x_w = w_w
                · rw [e_w]; exact (k8_w w_w hw).1.mp w2_w
                · exact i4_w x_w (by omega) hk
              · rw [if_neg (fun q_w => q_w w1_w)] at hs; cases hs
            · rw [if_neg (fun z_w => z_w (mk_w.mpr c3_w))] at hs
              have hs := Sum.inl.inj (Option.some.inj hs)
              rw [← hs]
              refine ⟨w_w + 1, hw, rfl, i3_w, fun x_w hx hk => ?_⟩
              by_cases e_w : x_w = w_w
              · rw [e_w] at hk; exact absurd hk c3_w
              · exact i4_w x_w (by omega) hk
        · intro hr'
          obtain ⟨w_w, i1_w, i2_w, i3_w, i4_w⟩ := hI
          obtain ⟨sa_w, sb_w, z_w⟩ := s
          have i2_w : sb_w = Int32.ofNat w_w := i2_w
          have i3_w : ICw (c_w.2.2.1 1 7) (c_w.2.2.1 1 8) c_w q_w.2 z_w := i3_w
          have hs : d_X9_cost_l14b 1 sa_w sb_w z_w = some (.inr r_w) := hs
          obtain ⟨a7, z0⟩ := z0w z_w i3_w
          unfold d_X9_cost_l14b at hs
          rw [a7, i2_w, z0, mk_i (by omega)] at hs
          by_cases c1_w : (Wn : Int) ≤ w_w
          · exact absurd wq3 (i4_w wq (by omega) wq2)
          · rw [if_neg c1_w] at hs
            split at hs
            · obtain ⟨p_w, hp, hs⟩ := Option.bind_eq_some_iff.mp hs
              split at hs
              · obtain ⟨z2, hz2, hs⟩ := Option.bind_eq_some_iff.mp hs
                cases hs
              · have e_w := (Prod.mk.inj (hr'.trans (Sum.inr.inj (Option.some.inj hs)).symm)).1
                rw [e_w]
                exact gv
            · cases hs
    · exact absurd (by rw [s5]; rfl) rt
  · rw [if_neg c2_w] at f_w g_w
    exact (Prod.mk.inj (Option.some.inj f_w)).1.symm.trans (Prod.mk.inj (Option.some.inj g_w)).1
