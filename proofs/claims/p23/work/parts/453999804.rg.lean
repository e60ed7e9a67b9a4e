/-! ===== closed ways of all events ===== -/
theorem fcw_w {a_w E_w P_w f_w : Nat} {fr_w to_w od : Nat → Nat} {m_w e_w : dc_M} (ha_w : a_w = 41 ∨ a_w = 52) (N : NTw a_w E_w P_w fr_w to_w m_w) (G : GDw a_w E_w P_w fr_w to_w od m_w) (F_w : RFw m_w) (l34 : (m_w.2.2.2 34).2 = 16) (l35 : (m_w.2.2.2 35).2 = 16) (hf1 : f_w < E_w) (h_w : d_X5_findClosedWays 30 a_w (Int32.ofNat f_w) m_w = some e_w) : WFm m_w e_w ∧ (∀ k_w, 1 ≤ k_w → k_w ≤ E_w → MWx P_w fr_w to_w (fun p_w => b32 (m_w.1 a_w 13) p_w) (fun e_w => (m_w.1 (a_w + 8) e_w).toInt) f_w k_w f_w (e_w.1 36 (17 * f_w + k_w)).toInt ∧ (e_w.1 36 (17 * f_w + k_w)).toInt ≤ 6000) ∧ ∀ j_w, ¬ (17 * f_w + 1 ≤ j_w ∧ j_w ≤ 17 * f_w + E_w) → e_w.1 36 j_w = m_w.1 36 j_w := by
  have E16 := N.1.2
  have hf : ∀ p_w, p_w < P_w → fr_w p_w < E_w ∧ to_w p_w < E_w := fun p_w hp => ⟨(N.2.2.1 p_w hp).1, (N.2.2.1 p_w hp).2.1⟩
  have hd_w := N.2.2.2.2
  have fn_w : (Int32.ofNat f_w).toNatClampNeg = f_w := on_n (by omega)
  obtain ⟨w_w, hw⟩ : ∃ w_w, m_w.2.2.1 30 8 = w_w := ⟨_, rfl⟩
  have w3_w : w_w = 34 ∨ w_w = 35 := by
    rcases F_w with ⟨y1, y2⟩ | ⟨y1, y2⟩ <;> omega
  unfold d_X5_findClosedWays at h_w
  rw [hw, fn_w] at h_w
  cases hq : d_J7_fill_53178 w_w (-1) m_w with
  | none => rw [hq] at h_w; cases h_w
  | some q_w =>
    rw [hq, Option.bind_some] at h_w
    obtain ⟨q1_w, q2_w, q3_w⟩ := fi_run (n := 16) (by rcases w3_w with y_w | y_w <;> rw [y_w] <;> assumption) (by decide) hq
    have qw : q_w.2.2.1 30 8 = w_w := by rw [q1_w]; exact hw
    rw [qw] at h_w
    obtain ⟨Q_w, hQ⟩ : ∃ Q_w, dc_wi q_w w_w f_w 0 = Q_w := ⟨_, rfl⟩
    rw [hQ] at h_w
    have Q2_w : Q_w.2 = m_w.2 := by rw [← hQ]; exact q1_w
    have Qc : ∀ y_w, y_w ≠ w_w → Q_w.1 y_w = m_w.1 y_w := fun y_w hy => by
      rw [← hQ, ← q2_w y_w hy]
      exact funext (fun k_w => wi_k (by omega))
    have Qf : Q_w.1 w_w f_w = 0 := by rw [← hQ]; exact wi_s
    have Qo : ∀ x_w, x_w < 16 → x_w ≠ f_w → Q_w.1 w_w x_w = -1 := fun x_w hx hn => by rw [← hQ, wi_k (by omega)]; exact q3_w x_w hx
    cases hg : d_X5_goOnWithoutToken 30 a_w Q_w with
    | none => rw [hg] at h_w; cases h_w
    | some g =>
      rw [hg, Option.bind_some] at h_w
      have Qa : Q_w.1 a_w = m_w.1 a_w := Qc a_w (by omega)
      have Q8_w : Q_w.1 (a_w + 8) = m_w.1 (a_w + 8) := Qc _ (by omega)
      obtain ⟨e1_w, e2_w, e3_w, e4_w⟩ := @go_w a_w E_w P_w 0 f_w 0 fr_w to_w od Q_w g w_w ha_w (N.eqw (fun y_w h1 h2 => Qc y_w (by omega))) (G.eqw (by rw [Qc 30 (by omega)]) (Qc 31 (by omega)) (Qc 32 (by omega)) (Qc 33 (by omega)) (by rw [Qa])) (by rw [Q2_w]; exact hw) w3_w (by omega) (fun x_w hx => by
        rw [Qa, Q8_w]
        by_cases z_w : x_w = f_w
        · rw [z_w, Qf]
          exact ⟨Or.inr ⟨Int.le_refl _, [], rfl, rfl, rfl⟩, Int.le_refl _⟩
        · rw [Qo x_w (by omega) z_w]
          exact ⟨Or.inl rfl, by decide⟩) hg
      rw [Qa, Q8_w] at e3_w e4_w
      have gw : g.2.2.1 30 8 = w_w := by rw [e1_w, Q2_w]; exact hw
      have M0 := MWx.z (V := fun x_w => (g.1 w_w x_w).toInt) hf hd_w (fun x_w hx => (e3_w x_w hx).1) (by
        have := (e3_w f_w hf1).2.1
        rw [Qf] at this
        exact this) e4_w
      have gm_w : ∀ y_w, y_w ≠ w_w → g.1 y_w = m_w.1 y_w := fun y_w hy => (e2_w y_w hy).trans (Qc y_w hy)
      unfold d_X5_findClosedWays_l22 at h_w
      refine dc_lp_inv (s := ((1 : Int32), g)) (fun s : Int32 × dc_M => ∃ k_w : Nat, k_w ≤ E_w ∧ s.1 = Int32.ofNat (k_w + 1) ∧ WFm m_w s.2 ∧ (∀ x_w, x_w < E_w → MWx P_w fr_w to_w (fun p_w => b32 (m_w.1 a_w 13) p_w) (fun e_w => (m_w.1 (a_w + 8) e_w).toInt) f_w k_w x_w (s.2.1 (s.2.2.2.1 30 8) x_w).toInt ∧ (s.2.1 (s.2.2.2.1 30 8) x_w).toInt ≤ 340 * (k_w + 1)) ∧ (∀ k', 1 ≤ k' → k' ≤ k_w → MWx P_w fr_w to_w (fun p_w => b32 (m_w.1 a_w 13) p_w) (fun e_w => (m_w.1 (a_w + 8) e_w).toInt) f_w k' f_w (s.2.1 36 (17 * f_w + k')).toInt ∧ (s.2.1 36 (17 * f_w + k')).toInt ≤ 6000) ∧ ∀ j_w, ¬ (17 * f_w + 1 ≤ j_w ∧ j_w ≤ 17 * f_w + k_w) → s.2.1 36 j_w = m_w.1 36 j_w) (fun e_w : dc_M => WFm m_w e_w ∧ (∀ k_w, 1 ≤ k_w → k_w ≤ E_w → MWx P_w fr_w to_w (fun p_w => b32 (m_w.1 a_w 13) p_w) (fun e_w => (m_w.1 (a_w + 8) e_w).toInt) f_w k_w f_w (e_w.1 36 (17 * f_w + k_w)).toInt ∧ (e_w.1 36 (17 * f_w + k_w)).toInt ≤ 6000) ∧ ∀ j_w, ¬ (17 * f_w + 1 ≤ j_w ∧ j_w ≤ 17 * f_w + E_w) → e_w.1 36 j_w = m_w.1 36 j_w) (fun s s' hI hs => ?_) (fun s e_w hI hs => ?_) ⟨0, Nat.zero_le _, rfl, ⟨fun y_w h1 h2 h3 => gm_w y_w (by omega), by rw [e1_w, Q2_w], by unfold RFw; rw [e1_w, Q2_w]; exact F_w⟩, fun x_w hx => ?_, fun k' h1 h2 => by omega, fun j_w hj => by rw [gm_w 36 (by omega)]⟩ h_w
      · obtain ⟨k_w, i1_w, i2_w, i3_w, i4_w, i5_w, i6_w⟩ := hI
        obtain ⟨y_w, zm⟩ := s
        have i2_w : y_w = Int32.ofNat (k_w + 1) := i2_w
        have i3_w : WFm m_w zm := i3_w
        have i5_w : ∀ k', 1 ≤ k' → k' ≤ k_w → MWx P_w fr_w to_w (fun p_w => b32 (m_w.1 a_w 13) p_w) (fun e_w => (m_w.1 (a_w + 8) e_w).toInt) f_w k' f_w (zm.1 36 (17 * f_w + k')).toInt ∧ (zm.1 36 (17 * f_w + k')).toInt ≤ 6000 := i5_w
        have i6_w : ∀ j_w, ¬ (17 * f_w + 1 ≤ j_w ∧ j_w ≤ 17 * f_w + k_w) → zm.1 36 j_w = m_w.1 36 j_w := i6_w
        have hs : d_X5_findClosedWays_l22b 30 a_w (Int32.ofNat f_w) y_w zm = some (.inl s') := hs
        rw [i2_w] at hs
        by_cases c_w : k_w < E_w
        · obtain ⟨zm', r1_w, r2, r3, r4, r5_w⟩ := fcw_st ha_w N G l34 l35 hf1 c_w i3_w i4_w hs
          have r1_w := Sum.inl.inj r1_w
          rw [r1_w]
          refine ⟨k_w + 1, by omega, rfl, r2, fun x_w hx => ⟨(r3 x_w hx).1, Int.le_trans (r3 x_w hx).2 (by omega)⟩, fun k' h1 h2 => ?_, fun j_w hj => ?_⟩
          · by_cases z_w : k' = k_w + 1
            · rw [z_w]
              show MWx P_w fr_w to_w (fun p_w => b32 (m_w.1 a_w 13) p_w) (fun e_w => (m_w.1 (a_w + 8) e_w).toInt) f_w (k_w + 1) f_w (zm'.1 36 (17 * f_w + (k_w + 1))).toInt ∧ (zm'.1 36 (17 * f_w + (k_w + 1))).toInt ≤ 6000
              rw [r4]
              exact ⟨(r3 f_w hf1).1, Int.le_trans (r3 f_w hf1).2 (by omega)⟩
            · show MWx P_w fr_w to_w (fun p_w => b32 (m_w.1 a_w 13) p_w) (fun e_w => (m_w.1 (a_w + 8) e_w).toInt) f_w k' f_w (zm'.1 36 (17 * f_w + k')).toInt ∧ (zm'.1 36 (17 * f_w + k')).toInt ≤ 6000
              rw [r5_w _ (by omega)]
              exact i5_w k' h1 (by omega)
          · show zm'.1 36 j_w = _
            rw [r5_w j_w (by omega)]
            exact i6_w j_w (by omega)
        · unfold d_X5_findClosedWays_l22b at hs
          rw [i3_w.1 a_w (by omega) (by omega) (by omega), N.1.1, mk_i (by omega), if_pos (show (E_w : Int) < ((k_w + 1 : Nat) : Int) by omega)] at hs
          cases hs
      · obtain ⟨k_w, i1_w, i2_w, i3_w, i4_w, i5_w, i6_w⟩ := hI
        obtain ⟨y_w, zm⟩ := s
        have i2_w : y_w = Int32.ofNat (k_w + 1) := i2_w
        have i3_w : WFm m_w zm := i3_w
        have hs : d_X5_findClosedWays_l22b 30 a_w (Int32.ofNat f_w) y_w zm = some (.inr e_w) := hs
        rw [i2_w] at hs
        by_cases c_w : k_w < E_w
        · obtain ⟨zm', r1_w, -⟩ := fcw_st ha_w N G l34 l35 hf1 c_w i3_w i4_w hs
          cases r1_w
        · unfold d_X5_findClosedWays_l22b at hs
          rw [i3_w.1 a_w (by omega) (by omega) (by omega), N.1.1, mk_i (by omega), if_pos (show (E_w : Int) < ((k_w + 1 : Nat) : Int) by omega)] at hs
          have hs : zm = e_w := Sum.inr.inj (Option.some.inj hs)
          rw [← hs]
          have ke : k_w = E_w := by omega
          rw [ke] at i5_w i6_w
          exact ⟨i3_w, i5_w, i6_w⟩
      · show MWx P_w fr_w to_w (fun p_w => b32 (m_w.1 a_w 13) p_w) (fun e_w => (m_w.1 (a_w + 8) e_w).toInt) f_w 0 x_w (g.1 (g.2.2.1 30 8) x_w).toInt ∧ (g.1 (g.2.2.1 30 8) x_w).toInt ≤ _
        rw [gw]
        exact ⟨M0 x_w hx, Int.le_trans (e3_w x_w hx).2.2 (by omega)⟩
/-- all closed ways -/
def CWx (a_w E_w P_w : Nat) (fr_w to_w : Nat → Nat) (m0_w m_w : dc_M) : Prop := ∀ f_w, f_w < E_w → ∀ k_w, 1 ≤ k_w → k_w ≤ E_w → MWx P_w fr_w to_w (fun p_w => b32 (m0_w.1 a_w 13) p_w) (fun e_w => (m0_w.1 (a_w + 8) e_w).toInt) f_w k_w f_w (m_w.1 36 (17 * f_w + k_w)).toInt ∧ (m_w.1 36 (17 * f_w + k_w)).toInt ≤ 6000
theorem l50_w {a_w E_w P_w : Nat} {fr_w to_w od : Nat → Nat} {m_w e_w : dc_M} (ha_w : a_w = 41 ∨ a_w = 52) (N : NTw a_w E_w P_w fr_w to_w m_w) (G : GDw a_w E_w P_w fr_w to_w od m_w) (F_w : RFw m_w) (l34 : (m_w.2.2.2 34).2 = 16) (l35 : (m_w.2.2.2 35).2 = 16) (h_w : d_X5_find_l50 30 a_w 0 m_w = some e_w) : ∃ zm, WFm m_w zm ∧ CWx a_w E_w P_w fr_w to_w m_w zm ∧ d_X5_findBeat 30 (zm.1 a_w 1) zm = some e_w := by
  have E16 := N.1.2
  unfold d_X5_find_l50 at h_w
  have tr_w : ∀ zm : dc_M, WFm m_w zm → NTw a_w E_w P_w fr_w to_w zm ∧ GDw a_w E_w P_w fr_w to_w od zm ∧ RFw zm ∧ (zm.2.2.2 34).2 = 16 ∧ (zm.2.2.2 35).2 = 16 := fun zm W_w => ⟨N.eqw (fun y_w h1 h2 => W_w.1 y_w (by omega) (by omega) (by omega)), G.eqw (by rw [W_w.1 30 (by decide) (by decide) (by decide)]) (W_w.1 31 (by decide) (by decide) (by decide)) (W_w.1 32 (by decide) (by decide) (by decide)) (W_w.1 33 (by decide) (by decide) (by decide)) (by rw [W_w.1 a_w (by omega) (by omega) (by omega)]), W_w.2.2, by rw [W_w.2.1]; exact l34, by rw [W_w.2.1]; exact l35⟩
  refine dc_lp_inv (s := ((0 : Int32), m_w)) (fun s : Int32 × dc_M => ∃ i_w : Nat, i_w ≤ E_w ∧ s.1 = Int32.ofNat i_w ∧ WFm m_w s.2 ∧ ∀ f_w, f_w < i_w → ∀ k_w, 1 ≤ k_w → k_w ≤ E_w → MWx P_w fr_w to_w (fun p_w => b32 (m_w.1 a_w 13) p_w) (fun e_w => (m_w.1 (a_w + 8) e_w).toInt) f_w k_w f_w (s.2.1 36 (17 * f_w + k_w)).toInt ∧ (s.2.1 36 (17 * f_w + k_w)).toInt ≤ 6000) (fun e_w : dc_M => ∃ zm, WFm m_w zm ∧ CWx a_w E_w P_w fr_w to_w m_w zm ∧ d_X5_findBeat 30 (zm.1 a_w 1) zm = some e_w) (fun s s' hI hs => ?_) (fun s e_w hI hs => ?_) ⟨0, Nat.zero_le _, rfl, ⟨fun _ _ _ _ => rfl, rfl, F_w⟩, fun f_w hf => absurd hf (Nat.not_lt_zero f_w)⟩ h_w
  · obtain ⟨i_w, i1_w, i2_w, i3_w, i4_w⟩ := hI
    obtain ⟨y_w, zm⟩ := s
    have i2_w : y_w = Int32.ofNat i_w := i2_w
    have i3_w : WFm m_w zm := i3_w
    have i4_w : ∀ f_w, f_w < i_w → ∀ k_w, 1 ≤ k_w → k_w ≤ E_w → MWx P_w fr_w to_w (fun p_w => b32 (m_w.1 a_w 13) p_w) (fun e_w => (m_w.1 (a_w + 8) e_w).toInt) f_w k_w f_w (zm.1 36 (17 * f_w + k_w)).toInt ∧ (zm.1 36 (17 * f_w + k_w)).toInt ≤ 6000 := i4_w
    have hs : d_X5_find_l50b 30 a_w y_w zm = some (.inl s') := hs
    unfold d_X5_find_l50b at hs
    rw [i2_w, i3_w.1 a_w (by omega) (by omega) (by omega), N.1.1, mk_i (by omega)] at hs
    by_cases c_w : (E_w : Int) ≤ i_w
    · rw [if_pos c_w] at hs
      generalize d_X5_find_b70 30 a_w zm = o at hs
      cases o with
      | none => cases hs
      | some o => cases hs
    · rw [if_neg c_w] at hs
      cases hq : d_X5_findClosedWays 30 a_w (Int32.ofNat i_w) zm with
      | none => rw [hq] at hs; cases hs
      | some q_w =>
        rw [hq] at hs
        have hs := Sum.inl.inj (Option.some.inj hs)
        rw [← hs]
        obtain ⟨t1_w, t2_w, t3_w, t4_w, t5_w⟩ := tr_w zm i3_w
        obtain ⟨r1_w, r2, r3⟩ := fcw_w ha_w t1_w t2_w t3_w t4_w t5_w (show i_w < E_w by omega) hq
        have za : zm.1 a_w = m_w.1 a_w := i3_w.1 a_w (by omega) (by omega) (by omega)
        have z8 : zm.1 (a_w + 8) = m_w.1 (a_w + 8) := i3_w.1 _ (by omega) (by omega) (by omega)
        rw [za, z8] at r2
        refine ⟨i_w + 1, by omega, on_1 (by omega), ⟨fun y_w h1 h2 h3 => (r1_w.1 y_w h1 h2 h3).trans (i3_w.1 y_w h1 h2 h3), r1_w.2.1.trans i3_w.2.1, r1_w.2.2⟩, fun f_w hf k_w k1_w k2_w => ?_⟩
        by_cases z_w : f_w = i_w
        · rw [z_w]
          exact r2 k_w k1_w k2_w
        · show MWx P_w fr_w to_w (fun p_w => b32 (m_w.1 a_w 13) p_w) (fun e_w => (m_w.1 (a_w + 8) e_w).toInt) f_w k_w f_w (q_w.1 36 (17 * f_w + k_w)).toInt ∧ (q_w.1 36 (17 * f_w + k_w)).toInt ≤ 6000
          rw [r3 _ (by omega)]
          exact i4_w f_w (by omega) k_w k1_w k2_w
  · obtain ⟨i_w, i1_w, i2_w, i3_w, i4_w⟩ := hI
    obtain ⟨y_w, zm⟩ := s
    have i2_w : y_w = Int32.ofNat i_w := i2_w
    have i3_w : WFm m_w zm := i3_w
    have hs : d_X5_find_l50b 30 a_w y_w zm = some (.inr e_w) := hs
    unfold d_X5_find_l50b at hs
    rw [i2_w] at hs
    by_cases c_w : i_w < E_w
    · rw [i3_w.1 a_w (by omega) (by omega) (by omega), N.1.1, mk_i (by omega), if_neg (show ¬ (E_w : Int) ≤ i_w by omega)] at hs
      generalize d_X5_findClosedWays 30 a_w (Int32.ofNat i_w) zm = o at hs
      cases o with
      | none => cases hs
      | some o => cases hs
    · have ie : i_w = E_w := by omega
      rw [ie] at i4_w hs
      rw [if_pos (by rw [i3_w.1 a_w (by omega) (by omega) (by omega), N.1.1, mk_i (by omega)]; omega)] at hs
      unfold d_X5_find_b70 at hs
      cases hq : d_X5_findBeat 30 (zm.1 a_w 1) zm with
      | none => rw [hq] at hs; cases hs
      | some q_w =>
        rw [hq] at hs
        have hs : q_w = e_w := Sum.inr.inj (Option.some.inj hs)
        exact ⟨zm, i3_w, i4_w, by rw [hq, hs]⟩
