/-! ===== gathering forgets, solving remembers ===== -/
theorem ga8_w {W_w : Int32} {x2_w : Nat} {c0 c1_w : dc_M} (h_w : d_X8_gather 15 W_w x2_w c0 = some c1_w) : c1_w.1 15 8 = 0 := by
  unfold d_X8_gather at h_w
  refine (ge_X8_gather_l17 (a := 41) (b := 52) (c0 := c0) rfl ⟨Or.inl ⟨rfl, rfl⟩, ?_, rfl⟩ h_w).2.1
  rw [wi_k (by omega), wi_s]
theorem sv_X9_gatherSums {a b : Nat} {c0 m_w e_w : dc_M} (h_w : SVm a b c0 m_w) (q_w : d_X9_gatherSums 1 m_w = some e_w) : SVm a b c0 e_w := by
  unfold d_X9_gatherSums at q_w
  by_cases z_w : (m_w.1 1 13).toInt = 0
  · rw [if_neg (fun g_w => g_w z_w), show 1 + 14 = 15 from rfl, show 1 + 3 = 4 from rfl] at q_w
    obtain ⟨q1_w, hq, q_w⟩ := Option.bind_eq_some_iff.mp q_w
    obtain ⟨h1, h2⟩ := h_w
    have P_w := cp_X8_gather rfl h1 hq
    have z8 := ga8_w hq
    have q_w := Option.some.inj q_w
    rw [← q_w]
    refine ⟨cp_wi P_w (fun _ => by unfold cpc; omega), fun _ w_w hw hb_w => ?_⟩
    rw [wi_k (by omega), z8, b32_0] at hb_w
    cases hb_w
  · rw [if_pos z_w] at q_w
    cases q_w
    exact h_w
/-- what solving a wire leaves alone -/
theorem sof_w {w_w : Nat} {z_w z' : dc_M} (hw : w_w < 6) (h_w : d_X8_solve 15 (Int32.ofNat w_w) z_w = some z') : (b32 (z_w.1 15 8) w_w = true ∧ z' = z_w) ∨ (b32 (z_w.1 15 8) w_w = false ∧ z'.1 15 8 = z_w.1 15 8 ||| ((1 : Int32) <<< (Int32.ofNat w_w &&& 31)) ∧ (∀ j_w, j_w ≠ w_w → z'.1 19 j_w = z_w.1 19 j_w) ∧ (∀ b k_w, b ≠ 15 → ¬ (18 ≤ b ∧ b ≤ 29) → z'.1 b k_w = z_w.1 b k_w) ∧ (∀ k_w, k_w ≠ 8 → z'.1 15 k_w = z_w.1 15 k_w) ∧ (∀ b k_w, ¬ (21 ≤ b ∧ b ≤ 29) → z'.2.1 b k_w = z_w.2.1 b k_w) ∧ z'.2.2 = z_w.2.2) := by
  have wn_w : (Int32.ofNat w_w).toNatClampNeg = w_w := on_n (by omega)
  have wt_ : (Int32.ofNat w_w).toInt = w_w := mk_i (by omega)
  unfold d_X8_solve at h_w
  have bt_w := @b32_t1 (z_w.1 15 8) (Int32.ofNat w_w) (by rw [wt_]; omega)
  rw [wn_w] at bt_w
  by_cases s : (((z_w.1 15 8) >>> (Int32.ofNat w_w &&& 31)) &&& (1 : Int32)).toInt = 0
  · rw [if_pos s] at h_w
    have nb : b32 (z_w.1 15 8) w_w = false := eq_false_of_ne_true (fun q_w => by have := bt_w.mpr q_w; omega)
    obtain ⟨Z_w, hZ⟩ : ∃ Z_w, dc_wi z_w 15 8 ((z_w.1 15 8) ||| ((1 : Int32) <<< (Int32.ofNat w_w &&& 31))) = Z_w := ⟨_, rfl⟩
    have zk : ∀ b k_w, ¬ (b = 15 ∧ k_w = 8) → Z_w.1 b k_w = z_w.1 b k_w := fun b k_w hb_w => by rw [← hZ]; exact wi_k hb_w
    have z8 : Z_w.1 15 8 = z_w.1 15 8 ||| ((1 : Int32) <<< (Int32.ofNat w_w &&& 31)) := by rw [← hZ]; exact wi_s
    have z2 : Z_w.2 = z_w.2 := by rw [← hZ]; rfl
    rw [hZ, wn_w, show 15 + 6 = 21 from rfl, show 15 + 1 = 16 from rfl, show 15 + 2 = 17 from rfl, show 15 + 3 = 18 from rfl, show 15 + 4 = 19 from rfl] at h_w
    obtain ⟨q1_w, hq1, h_w⟩ := Option.bind_eq_some_iff.mp h_w
    obtain ⟨q2_w, hq2, h_w⟩ := Option.bind_eq_some_iff.mp h_w
    have A_w := fv_X1_gatherPrimes (a := 41) (b := 52) (c0 := Z_w) rfl ⟨Or.inl ⟨rfl, rfl⟩, fun _ _ _ => rfl, fun _ _ _ => rfl, rfl⟩ hq1
    obtain ⟨-, f1_w, f2_w, f3_w⟩ := fv_X1_choose (a := 41) (b := 52) (c0 := Z_w) rfl A_w hq2
    obtain ⟨Y, hY⟩ : ∃ Y, dc_wi (dc_wi q2_w.2 18 w_w q2_w.1) 19 w_w 0 = Y := ⟨_, rfl⟩
    rw [hY] at h_w
    have yk : ∀ b k_w, ¬ ((b = 18 ∨ b = 19) ∧ k_w = w_w) → Y.1 b k_w = q2_w.2.1 b k_w := fun b k_w hb_w => by rw [← hY, wi_k (by omega), wi_k (by omega)]
    have y2 : Y.2 = q2_w.2.2 := by rw [← hY]; rfl
    have res : (∀ b k_w, ¬ (b = 18 ∧ k_w = w_w) → ¬ (b = 19 ∧ k_w = w_w) → b ≠ 20 → z'.1 b k_w = q2_w.2.1 b k_w) ∧ z'.2 = q2_w.2.2 := by
      unfold d_X8_solve_l79 at h_w
      refine dc_lp_inv (s := ((0 : Int32), Y)) (fun s : Int32 × dc_M => (∀ b k_w, ¬ (b = 18 ∧ k_w = w_w) → ¬ (b = 19 ∧ k_w = w_w) → b ≠ 20 → s.2.1 b k_w = q2_w.2.1 b k_w) ∧ s.2.2 = q2_w.2.2) (fun z' => (∀ b k_w, ¬ (b = 18 ∧ k_w = w_w) → ¬ (b = 19 ∧ k_w = w_w) → b ≠ 20 → z'.1 b k_w = q2_w.2.1 b k_w) ∧ z'.2 = q2_w.2.2) (fun s s' hI hs => ?_) (fun s u_w hI hs => ?_) ⟨fun b k_w k1_w k2_w _ => yk b k_w (by omega), y2⟩ h_w
      · obtain ⟨i5_w, i6_w⟩ := hI
        have hs : d_X8_solve_l79b 15 (Int32.ofNat w_w) s.1 s.2 = some (.inl s') := hs
        unfold d_X8_solve_l79b at hs
        split at hs
        · cases hs
        · obtain ⟨g_w, -, hs⟩ := Option.bind_eq_some_iff.mp hs
          have hs := Sum.inl.inj (Option.some.inj hs)
          rw [← hs]
          refine ⟨fun b k_w k1_w k2_w k3_w => ?_, i6_w⟩
          rw [wn_w]
          rw [wi_k (by omega), wi_k (by omega)]; exact i5_w b k_w k1_w k2_w k3_w
      · obtain ⟨i5_w, i6_w⟩ := hI
        have hs : d_X8_solve_l79b 15 (Int32.ofNat w_w) s.1 s.2 = some (.inr u_w) := hs
        unfold d_X8_solve_l79b at hs
        split at hs
        · have hs := Sum.inr.inj (Option.some.inj hs)
          rw [← hs]
          exact ⟨i5_w, i6_w⟩
        · obtain ⟨g_w, -, hs⟩ := Option.bind_eq_some_iff.mp hs
          cases hs
    obtain ⟨r2, r3⟩ := res
    refine Or.inr ⟨nb, ?_, fun j_w hj => ?_, fun b k_w b1 b2 => ?_, fun k_w hk => ?_, fun b k_w hb_w => ?_, ?_⟩
    · rw [r2 15 8 (by omega) (by omega) (by decide), f1_w 15 8 (by omega)]; exact z8
    · rw [r2 19 j_w (by omega) (by omega) (by decide), f1_w 19 j_w (by omega)]; exact zk 19 j_w (by omega)
    · rw [r2 b k_w (by omega) (by omega) (by omega), f1_w b k_w (by omega)]; exact zk b k_w (by omega)
    · rw [r2 15 k_w (by omega) (by omega) (by decide), f1_w 15 k_w (by omega)]; exact zk 15 k_w (by omega)
    · rw [r3, f2_w b k_w hb_w, z2]
    · rw [r3, f3_w, z2]
  · rw [if_neg s] at h_w
    refine Or.inl ⟨bt_w.mp ?_, (Option.some.inj h_w).symm⟩
    have := @a1_w ((z_w.1 15 8) >>> (Int32.ofNat w_w &&& 31))
    omega
/-- a wire solved is remembered rightly -/
theorem svs_w {w_w : Nat} {z_w z' : dc_M} (hw : w_w < 6) (K_w : SVw z_w) (h_w : d_X8_solve 15 (Int32.ofNat w_w) z_w = some z') : SVw z' := by
  rcases sof_w hw h_w with ⟨-, e_w⟩ | ⟨b8, e8, e19_w, eb, e15_w, el, -⟩
  · rw [e_w]; exact K_w
  · intro h13 y hy hb_w W_w h6 hyW hW h7 dj ob
    rw [eb 1 13 (by decide) (by decide)] at h13
    rw [e15_w 6 (by decide)] at h6
    rw [e15_w 7 (by decide)] at h7
    have l16 : ∀ k_w, z'.2.1 16 k_w = z_w.2.1 16 k_w := fun k_w => el 16 k_w (by omega)
    have l17 : ∀ k_w, z'.2.1 17 k_w = z_w.2.1 17 k_w := fun k_w => el 17 k_w (by omega)
    rw [l16, l17] at dj
    rw [l16] at ob
    rw [l16, l17]
    by_cases e_w : y = w_w
    · rw [e_w] at dj ob hyW ⊢
      rcases sol_w hW hyW h6 h7 dj ob h_w with ⟨q_w, -⟩ | ⟨-, q_w, -⟩
      · rw [b8] at q_w; cases q_w
      · exact q_w
    · rw [e19_w y e_w]
      refine K_w h13 y hy ?_ W_w h6 hyW hW h7 dj ob
      rw [e8, b32_or, b32_1 ⟨by rw [mk_i (by omega)]; omega, by rw [mk_i (by omega)]; omega⟩ (by omega), on_n (by omega), decide_eq_false e_w, Bool.or_false] at hb_w
      exact hb_w
