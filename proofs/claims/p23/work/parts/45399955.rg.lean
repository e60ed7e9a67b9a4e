/-! ===== places fed and taken from once: the reference ===== -/
/-- the reference's isGraph, up to the ways -/
theorem ig_w {E_w P_w : Nat} {X9 X10 : Nat → Int32} {m_w m' : dc_M} {q_w : Int32} (hE : (m_w.1 82 3).toInt = E_w ∧ E_w ≤ 16) (hP : (m_w.1 82 10).toInt = P_w) (P20 : P_w ≤ 20) (h9 : ∀ p_w, p_w < P_w → ∀ k_w, k_w < 32 → b32 (X9 p_w) k_w = (decide ((k_w : Int) < E_w) && b32 (m_w.1 89 k_w) p_w)) (h10 : ∀ p_w, p_w < P_w → ∀ k_w, k_w < 32 → b32 (X10 p_w) k_w = (decide ((k_w : Int) < E_w) && b32 (m_w.1 88 k_w) p_w)) (hd_w : ∀ e_w, e_w < E_w → 0 ≤ (m_w.1 90 e_w).toInt ∧ (m_w.1 90 e_w).toInt ≤ 20) (h_w : d_X10_isGraph 82 m_w = some (q_w, m')) : (∀ y, y ≠ 111 → y ≠ 112 → m'.1 y = m_w.1 y) ∧ m'.2.2 = m_w.2.2 ∧ ((q_w = 0 ∧ ∃ p_w, p_w < P_w ∧ ¬ (cnt (X9 p_w) 32 = 1 ∧ cnt (X10 p_w) 32 = 1)) ∨ ((∀ p_w, p_w < P_w → ∃ f_w t_w, (ONw (X9 p_w) f_w ∧ m'.1 111 p_w = Int32.ofNat f_w) ∧ ONw (X10 p_w) t_w ∧ m'.1 112 p_w = Int32.ofNat t_w) ∧ ∃ m0, m0.1 = m'.1 ∧ d_X10_layWays 82 1 0 1 m0 = some m' ∧ ((q_w = 1 ∧ ∀ e_w, e_w < E_w → wyw m' e_w e_w < FRW / 2) ∨ (q_w = 0 ∧ ∃ e_w, e_w < E_w ∧ FRW / 2 ≤ wyw m' e_w e_w)))) := by
  have F2 : FRW / 2 = -500000000000 := rfl
  have hfd : ∀ (p_w : Nat) (zm : dc_M) (v_w : Int32), p_w < P_w → zm.1 82 = m_w.1 82 → zm.1 89 = m_w.1 89 → d_X10_feeding 82 (Int32.ofNat p_w) zm = some v_w → v_w = X9 p_w := fun p_w zm v_w hp z1 z2 hv => by
    have pt : (Int32.ofNat p_w).toInt = p_w := mk_i (by omega)
    have r_w := fd_run ⟨by omega, by omega⟩ (by rw [z1]; omega) hv
    refine b32_ext (fun k_w hk => ?_)
    rw [r_w k_w hk, h9 p_w hp k_w hk, z1, z2, hE.1, on_n (by omega)]
  have htk : ∀ (p_w : Nat) (zm : dc_M) (v_w : Int32), p_w < P_w → zm.1 82 = m_w.1 82 → zm.1 88 = m_w.1 88 → d_X10_taking 82 (Int32.ofNat p_w) zm = some v_w → v_w = X10 p_w := fun p_w zm v_w hp z1 z2 hv => by
    have pt : (Int32.ofNat p_w).toInt = p_w := mk_i (by omega)
    have r_w := tk_run ⟨by omega, by omega⟩ (by rw [z1]; omega) hv
    refine b32_ext (fun k_w hk => ?_)
    rw [r_w k_w hk, h10 p_w hp k_w hk, z1, z2, hE.1, on_n (by omega)]
  have c20_w : ∀ X_w : Int32, (∀ k_w, k_w < 32 → 16 ≤ k_w → b32 X_w k_w = false) → cnt X_w 20 = cnt X_w 32 := fun X_w hX => by
    have hX : ∀ k_w, 16 ≤ k_w → k_w < 32 → b32 X_w k_w = false := fun k_w h1 h2 => hX k_w h2 h1
    rw [cnt_hi hX 20 (by omega) (by omega), cnt_hi hX 32 (by omega) (by omega)]
  have k9 : ∀ p_w, p_w < P_w → cnt (X9 p_w) 20 = cnt (X9 p_w) 32 := fun p_w hp => c20_w _ (fun k_w h1 h2 => by rw [h9 p_w hp k_w h1, decide_eq_false (show ¬ (k_w : Int) < E_w by omega), Bool.false_and])
  have k10 : ∀ p_w, p_w < P_w → cnt (X10 p_w) 20 = cnt (X10 p_w) 32 := fun p_w hp => c20_w _ (fun k_w h1 h2 => by rw [h10 p_w hp k_w h1, decide_eq_false (show ¬ (k_w : Int) < E_w by omega), Bool.false_and])
  -- behind the ways
  have end111 : ∀ m1_w : dc_M, m1_w.1 82 = m_w.1 82 → d_X10_isGraph_l111 82 1 0 m1_w = some (q_w, m') → m1_w = m' ∧ ((q_w = 1 ∧ ∀ e_w, e_w < E_w → wyw m1_w e_w e_w < FRW / 2) ∨ (q_w = 0 ∧ ∃ e_w, e_w < E_w ∧ FRW / 2 ≤ wyw m1_w e_w e_w)) := fun m1_w e82 hz => by
    unfold d_X10_isGraph_l111 at hz
    have step_w : ∀ (e_w : Nat) (x : Int32) (r_w : (Int32 × Int32) ⊕ (Int32 × dc_M)), e_w < E_w → ((x = 1 ∧ ∀ i_w, i_w < e_w → wyw m1_w i_w i_w < FRW / 2) ∨ (x = 0 ∧ ∃ i_w, i_w < E_w ∧ FRW / 2 ≤ wyw m1_w i_w i_w)) → d_X10_isGraph_l111b 82 x (Int32.ofNat e_w) m1_w = some r_w → ∃ x' : Int32, r_w = .inl (x', Int32.ofNat (e_w + 1)) ∧ ((x' = 1 ∧ ∀ i_w, i_w < e_w + 1 → wyw m1_w i_w i_w < FRW / 2) ∨ (x' = 0 ∧ ∃ i_w, i_w < E_w ∧ FRW / 2 ≤ wyw m1_w i_w i_w)) := fun e_w x r_w he I_w hz => by
      unfold d_X10_isGraph_l111b at hz
      have ix : ((17 : Int32) * Int32.ofNat e_w).toNatClampNeg = 16 * e_w + e_w := by
        have t_w : ((17 : Int32) * Int32.ofNat e_w).toInt = ((17 * e_w : Nat) : Int) := by rw [Int32.toInt_mul, mk_i (by omega), show (17 : Int32).toInt = 17 from rfl, sx_bm (by omega) (by omega)]; omega
        show ((17 : Int32) * Int32.ofNat e_w).toInt.toNat = _
        rw [t_w]
        omega
      rw [e82, hE.1, mk_i (by omega), if_neg (show ¬ (E_w : Int) ≤ e_w by omega), on_1 (by omega), ix, show 82 + 28 = 110 from rfl] at hz
      rcases I_w with ⟨x1_w, x2_w⟩ | ⟨x1_w, x2_w⟩
      · rw [x1_w, if_neg (show ¬ (1 : Int32).toInt = 0 by decide)] at hz
        have lt_w := di_lt (x := m1_w.2.1 110 (16 * e_w + e_w)) (y := -500000000000)
        rw [show (-500000000000 : Int64).toInt = -500000000000 from rfl] at lt_w
        by_cases c_w : 0 ≤ (lg_cmp (m1_w.2.1 110 (16 * e_w + e_w)) (-500000000000)).toInt
        · rw [if_pos c_w] at hz
          refine ⟨0, (Option.some.inj hz).symm, Or.inr ⟨rfl, e_w, he, ?_⟩⟩
          rw [F2]
          exact Int.not_lt.mp (fun z_w => by have := lt_w.mpr z_w; omega)
        · rw [if_neg c_w] at hz
          refine ⟨1, (Option.some.inj hz).symm, Or.inl ⟨rfl, fun i_w hi_w => ?_⟩⟩
          by_cases z_w : i_w = e_w
          · rw [z_w, F2]
            exact lt_w.mp (by omega)
          · exact x2_w i_w (by omega)
      · rw [x1_w, if_pos (show (0 : Int32).toInt = 0 from rfl)] at hz
        exact ⟨0, (Option.some.inj hz).symm, Or.inr ⟨rfl, x2_w⟩⟩
    refine dc_lp_inv (s := ((1 : Int32), (0 : Int32))) (fun s : Int32 × Int32 => ∃ e_w : Nat, e_w ≤ E_w ∧ s.2 = Int32.ofNat e_w ∧ ((s.1 = 1 ∧ ∀ i_w, i_w < e_w → wyw m1_w i_w i_w < FRW / 2) ∨ (s.1 = 0 ∧ ∃ i_w, i_w < E_w ∧ FRW / 2 ≤ wyw m1_w i_w i_w))) (fun u_w : Int32 × dc_M => m1_w = u_w.2 ∧ ((u_w.1 = 1 ∧ ∀ e_w, e_w < E_w → wyw m1_w e_w e_w < FRW / 2) ∨ (u_w.1 = 0 ∧ ∃ e_w, e_w < E_w ∧ FRW / 2 ≤ wyw m1_w e_w e_w))) (fun s s' hI hs => ?_) (fun s u_w hI hs => ?_) ⟨0, Nat.zero_le _, rfl, Or.inl ⟨rfl, fun i_w z_w => absurd z_w (Nat.not_lt_zero i_w)⟩⟩ hz
    · obtain ⟨e_w, i1_w, i2_w, i3_w⟩ := hI
      obtain ⟨x, y⟩ := s
      have i2_w : y = Int32.ofNat e_w := i2_w
      have hs : d_X10_isGraph_l111b 82 x y m1_w = some (.inl s') := hs
      rw [i2_w] at hs
      by_cases c_w : e_w < E_w
      · obtain ⟨x', r1_w, r2⟩ := step_w e_w x _ c_w i3_w hs
        have r1_w := Sum.inl.inj r1_w
        rw [r1_w]
        exact ⟨e_w + 1, by omega, rfl, r2⟩
      · unfold d_X10_isGraph_l111b at hs
        rw [e82, hE.1, mk_i (by omega), if_pos (show (E_w : Int) ≤ e_w by omega)] at hs
        cases hs
    · obtain ⟨e_w, i1_w, i2_w, i3_w⟩ := hI
      obtain ⟨x, y⟩ := s
      have i2_w : y = Int32.ofNat e_w := i2_w
      have i3_w : (x = 1 ∧ ∀ i_w, i_w < e_w → wyw m1_w i_w i_w < FRW / 2) ∨ (x = 0 ∧ ∃ i_w, i_w < E_w ∧ FRW / 2 ≤ wyw m1_w i_w i_w) := i3_w
      have hs : d_X10_isGraph_l111b 82 x y m1_w = some (.inr u_w) := hs
      rw [i2_w] at hs
      by_cases c_w : e_w < E_w
      · obtain ⟨x', r1_w, r2⟩ := step_w e_w x _ c_w i3_w hs
        cases r1_w
      · unfold d_X10_isGraph_l111b at hs
        rw [e82, hE.1, mk_i (by omega), if_pos (show (E_w : Int) ≤ e_w by omega)] at hs
        have hs := Sum.inr.inj (Option.some.inj hs)
        rw [← hs]
        have ee : e_w = E_w := by omega
        rw [ee] at i3_w
        exact ⟨rfl, i3_w⟩
  -- the ends of the places
  have end60 : (∀ p_w, p_w < P_w → cnt (X9 p_w) 32 = 1 ∧ cnt (X10 p_w) 32 = 1) → d_X10_isGraph_l60 82 1 0 m_w = some (q_w, m') → (∀ y, y ≠ 111 → y ≠ 112 → m'.1 y = m_w.1 y) ∧ m'.2.2 = m_w.2.2 ∧ (∀ p_w, p_w < P_w → ∃ f_w t_w, (ONw (X9 p_w) f_w ∧ m'.1 111 p_w = Int32.ofNat f_w) ∧ ONw (X10 p_w) t_w ∧ m'.1 112 p_w = Int32.ofNat t_w) ∧ ∃ m0, m0.1 = m'.1 ∧ d_X10_layWays 82 1 0 1 m0 = some m' ∧ ((q_w = 1 ∧ ∀ e_w, e_w < E_w → wyw m' e_w e_w < FRW / 2) ∨ (q_w = 0 ∧ ∃ e_w, e_w < E_w ∧ FRW / 2 ≤ wyw m' e_w e_w)) := fun hone hz => by
    unfold d_X10_isGraph_l60 at hz
    refine dc_lp_inv (s := ((0 : Int32), m_w)) (fun s : Int32 × dc_M => ∃ p_w : Nat, p_w ≤ P_w ∧ s.1 = Int32.ofNat p_w ∧ (∀ y, y ≠ 111 → y ≠ 112 → s.2.1 y = m_w.1 y) ∧ s.2.2.2 = m_w.2.2 ∧ ∀ p', p' < p_w → ∃ f_w t_w, (ONw (X9 p') f_w ∧ s.2.1 111 p' = Int32.ofNat f_w) ∧ ONw (X10 p') t_w ∧ s.2.1 112 p' = Int32.ofNat t_w) (fun u_w : Int32 × dc_M => (q_w, m') = u_w → (∀ y, y ≠ 111 → y ≠ 112 → m'.1 y = m_w.1 y) ∧ m'.2.2 = m_w.2.2 ∧ (∀ p_w, p_w < P_w → ∃ f_w t_w, (ONw (X9 p_w) f_w ∧ m'.1 111 p_w = Int32.ofNat f_w) ∧ ONw (X10 p_w) t_w ∧ m'.1 112 p_w = Int32.ofNat t_w) ∧ ∃ m0, m0.1 = m'.1 ∧ d_X10_layWays 82 1 0 1 m0 = some m' ∧ ((q_w = 1 ∧ ∀ e_w, e_w < E_w → wyw m' e_w e_w < FRW / 2) ∨ (q_w = 0 ∧ ∃ e_w, e_w < E_w ∧ FRW / 2 ≤ wyw m' e_w e_w))) (fun s s' hI hs => ?_) (fun s u_w hI hs => ?_) ⟨0, Nat.zero_le _, rfl, fun _ _ _ => rfl, rfl, fun p' z_w => absurd z_w (Nat.not_lt_zero p')⟩ hz rfl
    · obtain ⟨p_w, i1_w, i2_w, i3_w, i4_w, i5_w⟩ := hI
      obtain ⟨y, zm⟩ := s
      have i2_w : y = Int32.ofNat p_w := i2_w
      have i3_w : ∀ y, y ≠ 111 → y ≠ 112 → zm.1 y = m_w.1 y := i3_w
      have hs : d_X10_isGraph_l60b 82 1 y zm = some (.inl s') := hs
      unfold d_X10_isGraph_l60b at hs
      rw [i2_w, i3_w 82 (by decide) (by decide), hP, mk_i (by omega)] at hs
      by_cases c_w : (P_w : Int) ≤ p_w
      · rw [if_pos c_w] at hs
        generalize d_X10_isGraph_b102 82 1 zm = o at hs
        cases o with
        | none => cases hs
        | some o => cases hs
      · have hp : p_w < P_w := by omega
        rw [if_neg c_w, on_n (by omega), on_1 (by omega), show 82 + 29 = 111 from rfl, show 82 + 30 = 112 from rfl] at hs
        obtain ⟨f_w, hf⟩ := one_w.mp (hone p_w hp).1
        obtain ⟨t_w, ht⟩ := one_w.mp (hone p_w hp).2
        cases e1_w : d_X10_feeding 82 (Int32.ofNat p_w) zm with
        | none => rw [e1_w] at hs; cases hs
        | some v1 =>
          have w1_w := hfd p_w zm v1 hp (i3_w 82 (by decide) (by decide)) (i3_w 89 (by decide) (by decide)) e1_w
          rw [e1_w, Option.bind_some, w1_w] at hs
          cases e2_w : d_X10_leastOf (X9 p_w) zm with
          | none => rw [e2_w] at hs; cases hs
          | some v2 =>
            rw [e2_w, Option.bind_some, lst_w hf e2_w] at hs
            have zk : ∀ y, y ≠ 111 → (dc_wi zm 111 p_w (Int32.ofNat f_w)).1 y = zm.1 y := fun y hy => funext (fun k_w => wi_k (by omega))
            cases e3_w : d_X10_taking 82 (Int32.ofNat p_w) (dc_wi zm 111 p_w (Int32.ofNat f_w)) with
            | none => rw [e3_w] at hs; cases hs
            | some v3 =>
              have w3_w := htk p_w _ v3 hp (by rw [zk 82 (by decide)]; exact i3_w 82 (by decide) (by decide)) (by rw [zk 88 (by decide)]; exact i3_w 88 (by decide) (by decide)) e3_w
              rw [e3_w, Option.bind_some, w3_w] at hs
              cases e4_w : d_X10_leastOf (X10 p_w) (dc_wi zm 111 p_w (Int32.ofNat f_w)) with
              | none => rw [e4_w] at hs; cases hs
              | some v4 =>
                rw [e4_w, Option.bind_some, lst_w ht e4_w] at hs
                have hs := Sum.inl.inj (Option.some.inj hs)
                rw [← hs]
                refine ⟨p_w + 1, by omega, rfl, fun y h1 h2 => ?_, i4_w, fun p' hp' => ?_⟩
                · rw [← i3_w y h1 h2]
                  exact funext (fun k_w => (wi_k (by omega)).trans (wi_k (by omega)))
                · by_cases z_w : p' = p_w
                  · rw [z_w]
                    refine ⟨f_w, t_w, ⟨hf, ?_⟩, ht, ?_⟩
                    · show (dc_wi (dc_wi zm 111 p_w (Int32.ofNat f_w)) 112 p_w (Int32.ofNat t_w)).1 111 p_w = _
                      rw [wi_k (by omega), wi_s]
                    · show (dc_wi (dc_wi zm 111 p_w (Int32.ofNat f_w)) 112 p_w (Int32.ofNat t_w)).1 112 p_w = _
                      rw [wi_s]
                  · obtain ⟨f', t', y1, y2, y3⟩ := i5_w p' (by omega)
                    refine ⟨f', t', ⟨y1.1, ?_⟩, y2, ?_⟩
                    · show (dc_wi (dc_wi zm 111 p_w (Int32.ofNat f_w)) 112 p_w (Int32.ofNat t_w)).1 111 p' = _
                      rw [wi_k (by omega), wi_k (by omega)]
                      exact y1.2
                    · show (dc_wi (dc_wi zm 111 p_w (Int32.ofNat f_w)) 112 p_w (Int32.ofNat t_w)).1 112 p' = _
                      rw [wi_k (by omega), wi_k (by omega)]
                      exact y3
    · intro hu
      obtain ⟨p_w, i1_w, i2_w, i3_w, i4_w, i5_w⟩ := hI
      obtain ⟨y, zm⟩ := s
      have i2_w : y = Int32.ofNat p_w := i2_w
      have i3_w : ∀ y, y ≠ 111 → y ≠ 112 → zm.1 y = m_w.1 y := i3_w
      have i4_w : zm.2.2 = m_w.2.2 := i4_w
      have hs : d_X10_isGraph_l60b 82 1 y zm = some (.inr u_w) := hs
      unfold d_X10_isGraph_l60b at hs
      rw [i2_w, i3_w 82 (by decide) (by decide), hP, mk_i (by omega)] at hs
      by_cases c_w : (P_w : Int) ≤ p_w
      · rw [if_pos c_w] at hs
        unfold d_X10_isGraph_b102 at hs
        cases e1_w : d_X10_layWays 82 1 0 1 zm with
        | none => rw [e1_w] at hs; cases hs
        | some m1_w =>
          rw [e1_w, Option.bind_some] at hs
          cases e2_w : d_X10_isGraph_l111 82 1 0 m1_w with
          | none => rw [e2_w] at hs; cases hs
          | some r_w =>
            rw [e2_w] at hs
            have hs : r_w = u_w := Sum.inr.inj (Option.some.inj hs)
            rw [hs, ← hu] at e2_w
            have pe : p_w = P_w := by omega
            rw [pe] at i5_w
            have ch_w : ∀ p', ∃ ft : Nat × Nat, p' < P_w → (ONw (X9 p') ft.1 ∧ zm.1 111 p' = Int32.ofNat ft.1) ∧ ONw (X10 p') ft.2 ∧ zm.1 112 p' = Int32.ofNat ft.2 := fun p' => by
              by_cases z_w : p' < P_w
              · obtain ⟨f_w, t_w, w_w⟩ := i5_w p' z_w
                exact ⟨(f_w, t_w), fun _ => w_w⟩
              · exact ⟨(0, 0), fun w_w => absurd w_w z_w⟩
            obtain ⟨g_w, hg⟩ := Classical.axiomOfChoice ch_w
            have lt9 : ∀ p' k_w, p' < P_w → ONw (X9 p') k_w → k_w < E_w := fun p' k_w hp o => by
              have w_w := h9 p' hp k_w o.1
              rw [(o.2 k_w o.1).mpr rfl] at w_w
              have w_w := (Bool.and_eq_true _ _).mp w_w.symm
              have := of_decide_eq_true w_w.1
              omega
            have lt10 : ∀ p' k_w, p' < P_w → ONw (X10 p') k_w → k_w < E_w := fun p' k_w hp o => by
              have w_w := h10 p' hp k_w o.1
              rw [(o.2 k_w o.1).mpr rfl] at w_w
              have w_w := (Bool.and_eq_true _ _).mp w_w.symm
              have := of_decide_eq_true w_w.1
              omega
            have k1_w : kww zm m1_w := (@lwy_run (fun _ _ _ => True) E_w P_w 1 0 1 (fun p' => (g_w p').1) (fun p' => (g_w p').2) zm m1_w (fun _ _ _ _ _ _ _ => trivial) (by rw [i3_w 82 (by decide) (by decide)]; exact hE.1) hE.2 (by rw [i3_w 82 (by decide) (by decide)]; exact hP) P20 (fun p' hp => ⟨(hg p' hp).1.2, lt9 p' _ hp (hg p' hp).1.1⟩) (fun p' hp => ⟨(hg p' hp).2.2, lt10 p' _ hp (hg p' hp).2.1⟩) (fun e_w he => by rw [i3_w 90 (by decide) (by decide)]; exact hd_w e_w he) (by decide) (by decide) (fun _ _ _ => trivial) e1_w).2.2.2
            obtain ⟨z1, z2⟩ := end111 m1_w (by rw [k1_w.1]; exact i3_w 82 (by decide) (by decide)) e2_w
            rw [z1] at e1_w z2 k1_w
            refine ⟨fun y h1 h2 => by rw [k1_w.1]; exact i3_w y h1 h2, k1_w.2.trans i4_w, fun p_w hp => by rw [k1_w.1]; exact i5_w p_w hp, zm, k1_w.1.symm, e1_w, z2⟩
      · rw [if_neg c_w, on_n (by omega), on_1 (by omega), show 82 + 29 = 111 from rfl, show 82 + 30 = 112 from rfl] at hs
        generalize d_X10_feeding 82 (Int32.ofNat p_w) zm = o at hs
        cases o with
        | none => cases hs
        | some o =>
          rw [Option.bind_some] at hs
          generalize d_X10_leastOf o zm = o2 at hs
          cases o2 with
          | none => cases hs
          | some o2 =>
            rw [Option.bind_some] at hs
            generalize d_X10_taking 82 (Int32.ofNat p_w) (dc_wi zm 111 p_w o2) = o3_w at hs
            cases o3_w with
            | none => cases hs
            | some o3_w =>
              rw [Option.bind_some] at hs
              generalize d_X10_leastOf o3_w (dc_wi zm 111 p_w o2) = o4_w at hs
              cases o4_w with
              | none => cases hs
              | some o4_w => cases hs
  -- the sizes
  unfold d_X10_isGraph d_X10_isGraph_l4 at h_w
  have step_w : ∀ (p_w : Nat) (x : Int32) (r_w : (Int32 × Int32) ⊕ (Int32 × dc_M)), p_w < P_w → ((x = 1 ∧ ∀ i_w, i_w < p_w → cnt (X9 i_w) 32 = 1 ∧ cnt (X10 i_w) 32 = 1) ∨ (x = 0 ∧ ∃ i_w, i_w < P_w ∧ ¬ (cnt (X9 i_w) 32 = 1 ∧ cnt (X10 i_w) 32 = 1))) → d_X10_isGraph_l4b 82 x (Int32.ofNat p_w) m_w = some r_w → ∃ x' : Int32, r_w = .inl (x', Int32.ofNat (p_w + 1)) ∧ ((x' = 1 ∧ ∀ i_w, i_w < p_w + 1 → cnt (X9 i_w) 32 = 1 ∧ cnt (X10 i_w) 32 = 1) ∨ (x' = 0 ∧ ∃ i_w, i_w < P_w ∧ ¬ (cnt (X9 i_w) 32 = 1 ∧ cnt (X10 i_w) 32 = 1))) := fun p_w x r_w hp I_w hz => by
    unfold d_X10_isGraph_l4b at hz
    rw [hP, mk_i (by omega), if_neg (show ¬ (P_w : Int) ≤ p_w by omega), on_1 (by omega)] at hz
    rcases I_w with ⟨x1_w, x2_w⟩ | ⟨x1_w, x2_w⟩
    · rw [x1_w, if_neg (show ¬ (1 : Int32).toInt = 0 by decide)] at hz
      have a9 := cnt_le (x := X9 p_w) 32
      have a10 := cnt_le (x := X10 p_w) 32
      cases e1_w : d_X10_feeding 82 (Int32.ofNat p_w) m_w with
      | none => rw [e1_w] at hz; cases hz
      | some v1 =>
        rw [e1_w, Option.bind_some, hfd p_w m_w v1 hp rfl rfl e1_w] at hz
        cases e2_w : d_X10_sizeOf (X9 p_w) m_w with
        | none => rw [e2_w] at hz; cases hz
        | some v2 =>
          rw [e2_w, Option.bind_some, so_cn e2_w, k9 p_w hp, mk_i (by omega)] at hz
          by_cases c1_w : cnt (X9 p_w) 32 = 1
          · rw [if_neg (fun z_w => z_w (by omega))] at hz
            cases e3_w : d_X10_taking 82 (Int32.ofNat p_w) m_w with
            | none => rw [e3_w] at hz; cases hz
            | some v3 =>
              rw [e3_w, Option.bind_some, htk p_w m_w v3 hp rfl rfl e3_w] at hz
              cases e4_w : d_X10_sizeOf (X10 p_w) m_w with
              | none => rw [e4_w] at hz; cases hz
              | some v4 =>
                rw [e4_w, Option.bind_some, so_cn e4_w, k10 p_w hp, mk_i (by omega)] at hz
                by_cases c2_w : cnt (X10 p_w) 32 = 1
                · rw [if_neg (fun z_w => z_w (by omega))] at hz
                  refine ⟨1, (Option.some.inj hz).symm, Or.inl ⟨rfl, fun i_w hi_w => ?_⟩⟩
                  by_cases z_w : i_w = p_w
                  · rw [z_w]; exact ⟨c1_w, c2_w⟩
                  · exact x2_w i_w (by omega)
                · rw [if_pos (by omega)] at hz
                  exact ⟨0, (Option.some.inj hz).symm, Or.inr ⟨rfl, p_w, hp, fun z_w => c2_w z_w.2⟩⟩
          · rw [if_pos (by omega)] at hz
            exact ⟨0, (Option.some.inj hz).symm, Or.inr ⟨rfl, p_w, hp, fun z_w => c1_w z_w.1⟩⟩
    · rw [x1_w, if_pos (show (0 : Int32).toInt = 0 from rfl)] at hz
      exact ⟨0, (Option.some.inj hz).symm, Or.inr ⟨rfl, x2_w⟩⟩
  refine dc_lp_inv (s := ((1 : Int32), (0 : Int32))) (fun s : Int32 × Int32 => ∃ p_w : Nat, p_w ≤ P_w ∧ s.2 = Int32.ofNat p_w ∧ ((s.1 = 1 ∧ ∀ i_w, i_w < p_w → cnt (X9 i_w) 32 = 1 ∧ cnt (X10 i_w) 32 = 1) ∨ (s.1 = 0 ∧ ∃ i_w, i_w < P_w ∧ ¬ (cnt (X9 i_w) 32 = 1 ∧ cnt (X10 i_w) 32 = 1)))) (fun u_w : Int32 × dc_M => (q_w, m') = u_w → (∀ y, y ≠ 111 → y ≠ 112 → m'.1 y = m_w.1 y) ∧ m'.2.2 = m_w.2.2 ∧ ((q_w = 0 ∧ ∃ p_w, p_w < P_w ∧ ¬ (cnt (X9 p_w) 32 = 1 ∧ cnt (X10 p_w) 32 = 1)) ∨ ((∀ p_w, p_w < P_w → ∃ f_w t_w, (ONw (X9 p_w) f_w ∧ m'.1 111 p_w = Int32.ofNat f_w) ∧ ONw (X10 p_w) t_w ∧ m'.1 112 p_w = Int32.ofNat t_w) ∧ ∃ m0, m0.1 = m'.1 ∧ d_X10_layWays 82 1 0 1 m0 = some m' ∧ ((q_w = 1 ∧ ∀ e_w, e_w < E_w → wyw m' e_w e_w < FRW / 2) ∨ (q_w = 0 ∧ ∃ e_w, e_w < E_w ∧ FRW / 2 ≤ wyw m' e_w e_w))))) (fun s s' hI hs => ?_) (fun s u_w hI hs => ?_) ⟨0, Nat.zero_le _, rfl, Or.inl ⟨rfl, fun i_w z_w => absurd z_w (Nat.not_lt_zero i_w)⟩⟩ h_w rfl
  · obtain ⟨p_w, i1_w, i2_w, i3_w⟩ := hI
    obtain ⟨x, y⟩ := s
    have i2_w : y = Int32.ofNat p_w := i2_w
    have hs : d_X10_isGraph_l4b 82 x y m_w = some (.inl s') := hs
    rw [i2_w] at hs
    by_cases c_w : p_w < P_w
    · obtain ⟨x', r1_w, r2⟩ := step_w p_w x _ c_w i3_w hs
      have r1_w := Sum.inl.inj r1_w
      rw [r1_w]
      exact ⟨p_w + 1, by omega, rfl, r2⟩
    · unfold d_X10_isGraph_l4b at hs
      rw [hP, mk_i (by omega), if_pos (show (P_w : Int) ≤ p_w by omega)] at hs
      generalize d_X10_isGraph_b52 82 x m_w = o at hs
      cases o with
      | none => cases hs
      | some o => cases hs
  · intro hu
    obtain ⟨p_w, i1_w, i2_w, i3_w⟩ := hI
    obtain ⟨x, y⟩ := s
    have i2_w : y = Int32.ofNat p_w := i2_w
    have i3_w : (x = 1 ∧ ∀ i_w, i_w < p_w → cnt (X9 i_w) 32 = 1 ∧ cnt (X10 i_w) 32 = 1) ∨ (x = 0 ∧ ∃ i_w, i_w < P_w ∧ ¬ (cnt (X9 i_w) 32 = 1 ∧ cnt (X10 i_w) 32 = 1)) := i3_w
    have hs : d_X10_isGraph_l4b 82 x y m_w = some (.inr u_w) := hs
    rw [i2_w] at hs
    by_cases c_w : p_w < P_w
    · obtain ⟨x', r1_w, r2⟩ := step_w p_w x _ c_w i3_w hs
      cases r1_w
    · unfold d_X10_isGraph_l4b at hs
      rw [hP, mk_i (by omega), if_pos (show (P_w : Int) ≤ p_w by omega)] at hs
      unfold d_X10_isGraph_b52 at hs
      have pe : p_w = P_w := by omega
      rcases i3_w with ⟨x1_w, x2_w⟩ | ⟨x1_w, x2_w⟩
      · rw [x1_w, if_pos (show ¬ (1 : Int32).toInt = 0 by decide)] at hs
        rw [pe] at x2_w
        cases e2_w : d_X10_isGraph_l60 82 1 0 m_w with
        | none => rw [e2_w] at hs; cases hs
        | some r_w =>
          rw [e2_w] at hs
          have hs : r_w = u_w := Sum.inr.inj (Option.some.inj hs)
          rw [hs, ← hu] at e2_w
          obtain ⟨y1, y2, y3⟩ := end60 x2_w e2_w
          exact ⟨y1, y2, Or.inr y3⟩
      · rw [x1_w, if_neg (fun z_w => z_w rfl)] at hs
        have hs : ((0 : Int32), m_w) = u_w := Sum.inr.inj (Option.some.inj hs)
        rw [← hs] at hu
        have hu := Prod.mk.inj hu
        rw [hu.1, hu.2]
        exact ⟨fun _ _ _ => rfl, rfl, Or.inl ⟨rfl, x2_w⟩⟩
