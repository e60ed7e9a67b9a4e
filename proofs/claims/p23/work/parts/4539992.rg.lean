/-! ===== longest ways: the reference's loops ===== -/
/-- the reference's ways -/
def wyw (m_w : dc_M) (a_w b_w : Nat) : Int := (m_w.2.1 110 (16 * a_w + b_w)).toInt
/-- memory but for the ways -/
def kww (m0_w m_w : dc_M) : Prop := m_w.1 = m0_w.1 ∧ m_w.2.2 = m0_w.2.2
theorem wlx_s {m_w : dc_M} {a_w k_w : Nat} {v_w : Int64} : (dc_wl m_w a_w k_w v_w).2.1 a_w k_w = v_w := if_pos ⟨rfl, rfl⟩
theorem wlx_k {m_w : dc_M} {a_w k_w b_w j_w : Nat} {v_w : Int64} (h_w : ¬ (b_w = a_w ∧ j_w = k_w)) : (dc_wl m_w a_w k_w v_w).2.1 b_w j_w = m_w.2.1 b_w j_w := if_neg h_w
theorem l64_add {x y : Int64} (h_w : -9000000000000000000 ≤ x.toInt + y.toInt ∧ x.toInt + y.toInt ≤ 9000000000000000000) : (x + y).toInt = x.toInt + y.toInt := by rw [Int64.toInt_add, sx_bm64 (by omega) (by omega)]
theorem b265_w {x6 : Int32} {a_w b_w E : Nat} {x9 : Int64} {s0_w : Int32} {m_w : dc_M} {r_w : (Int32 × dc_M) ⊕ ((Int32 × dc_M) ⊕ ((Int32 × dc_M) ⊕ dc_M))} (ha_w : a_w < 16) (hb_w : b_w < 16) (h_w : d_X10_layWays_b265 82 x6 (Int32.ofNat a_w) (Int32.ofNat b_w) x9 s0_w m_w = some r_w) : ∃ m', r_w = .inl (Int32.ofNat b_w + 1, m') ∧ kww m_w m' ∧ (∀ a' b', a' < 16 → b' < 16 → ¬ (a' = a_w ∧ b' = b_w) → wyw m' a' b' = wyw m_w a' b') ∧ wyw m' a_w b_w = if ¬ s0_w.toInt = 0 ∧ wyw m_w a_w b_w < x9.toInt then x9.toInt else wyw m_w a_w b_w := by
  unfold d_X10_layWays_b265 at h_w
  have ix : ((16 : Int32) * Int32.ofNat a_w + Int32.ofNat b_w).toNatClampNeg = 16 * a_w + b_w := ix_2 (mk_i (by omega)) (by omega) (mk_i (by omega)) (by omega)
  rw [ix, show 82 + 28 = 110 from rfl] at h_w
  have oth : ∀ (v_w : Int64) a' b', a' < 16 → b' < 16 → ¬ (a' = a_w ∧ b' = b_w) → wyw (dc_wl m_w 110 (16 * a_w + b_w) v_w) a' b' = wyw m_w a' b' := fun v_w a' b' h1 h2 h3 => by
    unfold wyw
    rw [wlx_k (by omega)]
  have own_w : ∀ v_w : Int64, wyw (dc_wl m_w 110 (16 * a_w + b_w) v_w) a_w b_w = v_w.toInt := fun v_w => by
    unfold wyw
    rw [wlx_s]
  by_cases c1_w : s0_w.toInt = 0
  · rw [if_pos c1_w] at h_w
    refine ⟨_, (Option.some.inj h_w).symm, ⟨rfl, rfl⟩, oth _, ?_⟩
    rw [own_w, if_neg (fun q_w => q_w.1 c1_w)]
    rfl
  · rw [if_neg c1_w] at h_w
    have lg := di_gt (x := x9) (y := m_w.2.1 110 (16 * a_w + b_w))
    by_cases c2_w : (lg_cmp x9 (m_w.2.1 110 (16 * a_w + b_w))).toInt ≤ 0
    · rw [if_pos c2_w] at h_w
      refine ⟨_, (Option.some.inj h_w).symm, ⟨rfl, rfl⟩, oth _, ?_⟩
      rw [own_w, if_neg (fun q_w => by have := lg.mpr q_w.2; omega)]
      rfl
    · rw [if_neg c2_w] at h_w
      refine ⟨_, (Option.some.inj h_w).symm, ⟨rfl, rfl⟩, oth _, ?_⟩
      rw [own_w, if_pos ⟨c1_w, lg.mp (by omega)⟩]
theorem l182_w {WT : Nat → Nat → Int → Prop} {E M_w a_w : Nat} {U_w L_w : Int} {V : Nat → Nat → Int} {m0_w m_w : dc_M} {u_w : (Int32 × dc_M) ⊕ ((Int32 × dc_M) ⊕ dc_M)} (hT_w : ∀ a_w k_w b_w u_w v_w, WT a_w k_w u_w → WT k_w b_w v_w → WT a_w b_w (u_w + v_w)) (hE : (m0_w.1 82 3).toInt = E) (h16_w : E ≤ 16) (hM_w : M_w < E) (ha_w : a_w < E) (hU : 0 ≤ U_w ∧ U_w ≤ 1000000000000000) (hL : 0 ≤ L_w ∧ L_w ≤ 200000000000) (hV : MRw WT E U_w L_w V) (K_w : kww m0_w m_w) (I : IRw WT E M_w U_w L_w V (wyw m_w) a_w 0) (h_w : d_X10_layWays_l182 82 (Int32.ofNat M_w) (Int32.ofNat a_w) 0 m_w = some u_w) : ∃ m', u_w = .inl (Int32.ofNat a_w + 1, m') ∧ kww m0_w m' ∧ IRw WT E M_w U_w L_w V (wyw m') (a_w + 1) 0 := by
  have hF2 : FRW / 2 = -500000000000 := rfl
  unfold d_X10_layWays_l182 at h_w
  have step_w : ∀ (b_w : Nat) (zm : dc_M) (r_w : (Int32 × dc_M) ⊕ ((Int32 × dc_M) ⊕ ((Int32 × dc_M) ⊕ dc_M))), b_w < E → kww m0_w zm → IRw WT E M_w U_w L_w V (wyw zm) a_w b_w → d_X10_layWays_l182b 82 (Int32.ofNat M_w) (Int32.ofNat a_w) (Int32.ofNat b_w) zm = some r_w → ∃ m', r_w = .inl (Int32.ofNat b_w + 1, m') ∧ kww m0_w m' ∧ IRw WT E M_w U_w L_w V (wyw m') a_w (b_w + 1) := fun b_w zm r_w hb_w K_w I hz => by
    unfold d_X10_layWays_l182b at hz
    have Mt : (Int32.ofNat M_w).toInt = M_w := mk_i (by omega)
    have at__w : (Int32.ofNat a_w).toInt = a_w := mk_i (by omega)
    have bt_w : (Int32.ofNat b_w).toInt = b_w := mk_i (by omega)
    rw [K_w.1, hE, bt_w, if_neg (show ¬ (E : Int) ≤ b_w by omega), ix_2 at__w (by omega) Mt (by omega), ix_2 Mt (by omega) bt_w (by omega), show 82 + 28 = 110 from rfl] at hz
    have g1 := di_gt (x := zm.2.1 110 (16 * a_w + M_w)) (y := -500000000000)
    have g2 := di_gt (x := zm.2.1 110 (16 * M_w + b_w)) (y := -500000000000)
    rw [show (-500000000000 : Int64).toInt = -500000000000 from rfl] at g1 g2
    have r1_w := (I.2.1 a_w M_w ha_w hM_w).1
    have r2 := (I.2.1 M_w b_w hM_w hb_w).1
    have hF : FRW = -1000000000000 := rfl
    have sum_w : (zm.2.1 110 (16 * a_w + M_w) + zm.2.1 110 (16 * M_w + b_w)).toInt = wyw zm a_w M_w + wyw zm M_w b_w := l64_add (by
      show -9000000000000000000 ≤ wyw zm a_w M_w + wyw zm M_w b_w ∧ wyw zm a_w M_w + wyw zm M_w b_w ≤ 9000000000000000000
      rcases r1_w with r1_w | ⟨r1_w, r1', -⟩ <;> rcases r2 with r2 | ⟨r2, r2', -⟩ <;> omega)
    have fin_w : ∀ s0_w : Int32, (¬ s0_w.toInt = 0 ↔ (FRW / 2 < wyw zm a_w M_w ∧ FRW / 2 < wyw zm M_w b_w)) → d_X10_layWays_b265 82 (Int32.ofNat M_w) (Int32.ofNat a_w) (Int32.ofNat b_w) (zm.2.1 110 (16 * a_w + M_w) + zm.2.1 110 (16 * M_w + b_w)) s0_w zm = some r_w → ∃ m', r_w = .inl (Int32.ofNat b_w + 1, m') ∧ kww m0_w m' ∧ IRw WT E M_w U_w L_w V (wyw m') a_w (b_w + 1) := fun s0_w hs hz => by
      obtain ⟨m', q1_w, q2_w, q3_w, q4_w⟩ := b265_w (E := E) (by omega) (by omega) hz
      refine ⟨m', q1_w, ⟨q2_w.1.trans K_w.1, q2_w.2.trans K_w.2⟩, I.sw hT_w hM_w ha_w hb_w hU.1 hL hV (fun a' b' h1 h2 h3 => q3_w a' b' (by omega) (by omega) h3) ?_⟩
      rw [q4_w, sum_w]
      by_cases c_w : FRW / 2 < wyw zm a_w M_w ∧ FRW / 2 < wyw zm M_w b_w ∧ wyw zm a_w b_w < wyw zm a_w M_w + wyw zm M_w b_w
      · rw [if_pos c_w, if_pos ⟨hs.mpr ⟨c_w.1, c_w.2.1⟩, c_w.2.2⟩]
      · rw [if_neg c_w, if_neg (fun z_w => c_w ⟨(hs.mp z_w.1).1, (hs.mp z_w.1).2, z_w.2⟩)]
    by_cases c1_w : (lg_cmp (zm.2.1 110 (16 * a_w + M_w)) (-500000000000)).toInt ≤ 0
    · rw [if_pos c1_w] at hz
      exact fin_w 0 ⟨fun q_w => absurd rfl q_w, fun q_w => by rw [hF2] at q_w; have := g1.mpr q_w.1; omega⟩ hz
    · rw [if_neg c1_w] at hz
      by_cases c2_w : (lg_cmp (zm.2.1 110 (16 * M_w + b_w)) (-500000000000)).toInt ≤ 0
      · rw [if_pos c2_w] at hz
        exact fin_w 0 ⟨fun q_w => absurd rfl q_w, fun q_w => by rw [hF2] at q_w; have := g2.mpr q_w.2; omega⟩ hz
      · rw [if_neg c2_w] at hz
        exact fin_w 1 ⟨fun _ => by rw [hF2]; exact ⟨g1.mp (by omega), g2.mp (by omega)⟩, fun _ => by decide⟩ hz
  refine dc_lp_inv (s := ((0 : Int32), m_w)) (fun z_w : Int32 × dc_M => ∃ b_w : Nat, b_w ≤ E ∧ z_w.1 = Int32.ofNat b_w ∧ kww m0_w z_w.2 ∧ IRw WT E M_w U_w L_w V (wyw z_w.2) a_w b_w) (fun u_w : (Int32 × dc_M) ⊕ ((Int32 × dc_M) ⊕ dc_M) => ∃ m', u_w = .inl (Int32.ofNat a_w + 1, m') ∧ kww m0_w m' ∧ IRw WT E M_w U_w L_w V (wyw m') (a_w + 1) 0) (fun z_w z' hI hz => ?_) (fun z_w u_w hI hz => ?_) ⟨0, Nat.zero_le _, rfl, K_w, I⟩ h_w
  · obtain ⟨b_w, b1, b2, b3, b4⟩ := hI
    obtain ⟨x8, zm⟩ := z_w
    have b2 : x8 = Int32.ofNat b_w := b2
    have b3 : kww m0_w zm := b3
    have b4 : IRw WT E M_w U_w L_w V (wyw zm) a_w b_w := b4
    have hz : d_X10_layWays_l182b 82 (Int32.ofNat M_w) (Int32.ofNat a_w) x8 zm = some (.inl z') := hz
    rw [b2] at hz
    by_cases c_w : b_w < E
    · obtain ⟨m', r1_w, r2, r3⟩ := step_w b_w zm _ c_w b3 b4 hz
      have r1_w := Sum.inl.inj r1_w
      rw [r1_w]
      exact ⟨b_w + 1, by omega, on_1 (by omega), r2, r3⟩
    · unfold d_X10_layWays_l182b at hz
      rw [b3.1, hE, mk_i (show b_w < 2147483648 by omega), if_pos (show (E : Int) ≤ b_w by omega)] at hz
      cases hz
  · obtain ⟨b_w, b1, b2, b3, b4⟩ := hI
    obtain ⟨x8, zm⟩ := z_w
    have b2 : x8 = Int32.ofNat b_w := b2
    have b3 : kww m0_w zm := b3
    have b4 : IRw WT E M_w U_w L_w V (wyw zm) a_w b_w := b4
    have hz : d_X10_layWays_l182b 82 (Int32.ofNat M_w) (Int32.ofNat a_w) x8 zm = some (.inr u_w) := hz
    rw [b2] at hz
    by_cases c_w : b_w < E
    · obtain ⟨m', r1_w, -⟩ := step_w b_w zm _ c_w b3 b4 hz
      cases r1_w
    · unfold d_X10_layWays_l182b at hz
      rw [b3.1, hE, mk_i (show b_w < 2147483648 by omega), if_pos (show (E : Int) ≤ b_w by omega)] at hz
      have hz := Sum.inr.inj (Option.some.inj hz)
      have be : b_w = E := by omega
      rw [be] at b4
      exact ⟨zm, hz.symm, b3, b4.nw⟩
theorem l170_w {WT : Nat → Nat → Int → Prop} {E M_w : Nat} {U_w L_w : Int} {V : Nat → Nat → Int} {m0_w m_w : dc_M} {u_w : (Int32 × dc_M) ⊕ dc_M} (hT_w : ∀ a_w k_w b_w u_w v_w, WT a_w k_w u_w → WT k_w b_w v_w → WT a_w b_w (u_w + v_w)) (hE : (m0_w.1 82 3).toInt = E) (h16_w : E ≤ 16) (hM_w : M_w < E) (hU : 0 ≤ U_w ∧ U_w ≤ 1000000000000000) (hL : 0 ≤ L_w ∧ L_w ≤ 200000000000) (hV : MRw WT E U_w L_w V) (K_w : kww m0_w m_w) (I : IRw WT E M_w U_w L_w V (wyw m_w) 0 0) (h_w : d_X10_layWays_l170 82 (Int32.ofNat M_w) 0 m_w = some u_w) : ∃ m', u_w = .inl (Int32.ofNat M_w + 1, m') ∧ kww m0_w m' ∧ IRw WT E M_w U_w L_w V (wyw m') E 0 := by
  unfold d_X10_layWays_l170 at h_w
  refine dc_lp_inv (s := ((0 : Int32), m_w)) (fun z_w : Int32 × dc_M => ∃ a_w : Nat, a_w ≤ E ∧ z_w.1 = Int32.ofNat a_w ∧ kww m0_w z_w.2 ∧ IRw WT E M_w U_w L_w V (wyw z_w.2) a_w 0) (fun u_w : (Int32 × dc_M) ⊕ dc_M => ∃ m', u_w = .inl (Int32.ofNat M_w + 1, m') ∧ kww m0_w m' ∧ IRw WT E M_w U_w L_w V (wyw m') E 0) (fun z_w z' hI hz => ?_) (fun z_w u_w hI hz => ?_) ⟨0, Nat.zero_le _, rfl, K_w, I⟩ h_w
  · obtain ⟨a_w, b1, b2, b3, b4⟩ := hI
    obtain ⟨x7, zm⟩ := z_w
    have b2 : x7 = Int32.ofNat a_w := b2
    have b3 : kww m0_w zm := b3
    have b4 : IRw WT E M_w U_w L_w V (wyw zm) a_w 0 := b4
    have hz : d_X10_layWays_l170b 82 (Int32.ofNat M_w) x7 zm = some (.inl z') := hz
    unfold d_X10_layWays_l170b at hz
    rw [b2, b3.1, hE, mk_i (show a_w < 2147483648 by omega)] at hz
    by_cases c_w : (E : Int) ≤ a_w
    · rw [if_pos c_w] at hz; cases hz
    · rw [if_neg c_w] at hz
      obtain ⟨m', r1_w, r2, r3⟩ := l182_w hT_w hE h16_w hM_w (show a_w < E by omega) hU hL hV b3 b4 hz
      have r1_w := Sum.inl.inj r1_w
      rw [r1_w]
      exact ⟨a_w + 1, by omega, on_1 (by omega), r2, r3⟩
  · obtain ⟨a_w, b1, b2, b3, b4⟩ := hI
    obtain ⟨x7, zm⟩ := z_w
    have b2 : x7 = Int32.ofNat a_w := b2
    have b3 : kww m0_w zm := b3
    have b4 : IRw WT E M_w U_w L_w V (wyw zm) a_w 0 := b4
    have hz : d_X10_layWays_l170b 82 (Int32.ofNat M_w) x7 zm = some (.inr u_w) := hz
    unfold d_X10_layWays_l170b at hz
    rw [b2, b3.1, hE, mk_i (show a_w < 2147483648 by omega)] at hz
    by_cases c_w : (E : Int) ≤ a_w
    · rw [if_pos c_w] at hz
      have hz := Sum.inr.inj (Option.some.inj hz)
      have ae : a_w = E := by omega
      rw [ae] at b4
      exact ⟨zm, hz.symm, b3, b4⟩
    · rw [if_neg c_w] at hz
      obtain ⟨m', r1_w, -⟩ := l182_w hT_w hE h16_w hM_w (show a_w < E by omega) hU hL hV b3 b4 hz
      cases r1_w
/-- bounds behind M_w rounds -/
def UBw : Nat → Int
  | 0 => 400
  | M_w + 1 => 6 * UBw M_w
def LBw : Nat → Int
  | 0 => 400
  | M_w + 1 => 2 * LBw M_w
theorem UBw.bw : ∀ M_w, M_w < 17 → (0 ≤ UBw M_w ∧ UBw M_w ≤ 1200000000000000) ∧ (M_w ≤ 15 → UBw M_w ≤ 200000000000000) ∧ 0 ≤ LBw M_w ∧ LBw M_w ≤ 30000000 := by decide +kernel
theorem l158_w {WT : Nat → Nat → Int → Prop} {E : Nat} {m_w e_w : dc_M} (hT_w : ∀ a_w k_w b_w u_w v_w, WT a_w k_w u_w → WT k_w b_w v_w → WT a_w b_w (u_w + v_w)) (hE : (m_w.1 82 3).toInt = E) (h16_w : E ≤ 16) (hV : MRw WT E 400 400 (wyw m_w)) (h_w : d_X10_layWays_l158 82 0 m_w = some e_w) : MRw WT E (UBw E) (LBw E) (wyw e_w) ∧ CLw E E (wyw e_w) ∧ (∀ a_w b_w, a_w < E → b_w < E → wyw m_w a_w b_w ≤ wyw e_w a_w b_w) ∧ kww m_w e_w := by
  unfold d_X10_layWays_l158 at h_w
  refine dc_lp_inv (s := ((0 : Int32), m_w)) (fun z_w : Int32 × dc_M => ∃ M_w : Nat, M_w ≤ E ∧ z_w.1 = Int32.ofNat M_w ∧ kww m_w z_w.2 ∧ MRw WT E (UBw M_w) (LBw M_w) (wyw z_w.2) ∧ CLw E M_w (wyw z_w.2) ∧ ∀ a_w b_w, a_w < E → b_w < E → wyw m_w a_w b_w ≤ wyw z_w.2 a_w b_w) (fun e_w : dc_M => MRw WT E (UBw E) (LBw E) (wyw e_w) ∧ CLw E E (wyw e_w) ∧ (∀ a_w b_w, a_w < E → b_w < E → wyw m_w a_w b_w ≤ wyw e_w a_w b_w) ∧ kww m_w e_w) (fun z_w z' hI hz => ?_) (fun z_w e_w hI hz => ?_) ⟨0, Nat.zero_le _, rfl, ⟨rfl, rfl⟩, hV, Or.inr (fun a_w k_w b_w _ hk => absurd hk (Nat.not_lt_zero k_w)), fun _ _ _ _ => Int.le_refl _⟩ h_w
  · obtain ⟨M_w, b1, b2, b3, b4, b5, b6⟩ := hI
    obtain ⟨x6, zm⟩ := z_w
    have b2 : x6 = Int32.ofNat M_w := b2
    have b3 : kww m_w zm := b3
    have b4 : MRw WT E (UBw M_w) (LBw M_w) (wyw zm) := b4
    have b5 : CLw E M_w (wyw zm) := b5
    have b6 : ∀ a_w b_w, a_w < E → b_w < E → wyw m_w a_w b_w ≤ wyw zm a_w b_w := b6
    have hz : d_X10_layWays_l158b 82 x6 zm = some (.inl z') := hz
    unfold d_X10_layWays_l158b at hz
    rw [b2, b3.1, hE, mk_i (show M_w < 2147483648 by omega)] at hz
    by_cases c_w : (E : Int) ≤ M_w
    · rw [if_pos c_w] at hz; cases hz
    · rw [if_neg c_w] at hz
      obtain ⟨u1_w, u2_w, u3⟩ := UBw.bw M_w (by omega)
      have u2_w := u2_w (by omega)
      have hM_w : M_w < E := by omega
      obtain ⟨m', r1_w, r2, r3⟩ := l170_w hT_w hE h16_w hM_w (by omega) (by omega) b4 b3 (IRw.bw hM_w u1_w.1 (by omega) b4) hz
      have r1_w := Sum.inl.inj r1_w
      rw [r1_w]
      obtain ⟨q1_w, q2_w, q3_w⟩ := r3.ew hM_w u1_w.1 (by omega) b4 b5
      exact ⟨M_w + 1, by omega, on_1 (by omega), r2, q1_w, q2_w, fun a_w b_w h1 h2 => Int.le_trans (b6 a_w b_w h1 h2) (q3_w a_w b_w h1 h2)⟩
  · obtain ⟨M_w, b1, b2, b3, b4, b5, b6⟩ := hI
    obtain ⟨x6, zm⟩ := z_w
    have b2 : x6 = Int32.ofNat M_w := b2
    have b3 : kww m_w zm := b3
    have b4 : MRw WT E (UBw M_w) (LBw M_w) (wyw zm) := b4
    have b5 : CLw E M_w (wyw zm) := b5
    have b6 : ∀ a_w b_w, a_w < E → b_w < E → wyw m_w a_w b_w ≤ wyw zm a_w b_w := b6
    have hz : d_X10_layWays_l158b 82 x6 zm = some (.inr e_w) := hz
    unfold d_X10_layWays_l158b at hz
    rw [b2, b3.1, hE, mk_i (show M_w < 2147483648 by omega)] at hz
    by_cases c_w : (E : Int) ≤ M_w
    · rw [if_pos c_w] at hz
      have hz := Sum.inr.inj (Option.some.inj hz)
      rw [← hz]
      have me_w : M_w = E := by omega
      rw [me_w] at b4 b5
      exact ⟨b4, b5, b6, b3⟩
    · rw [if_neg c_w] at hz
      obtain ⟨u1_w, u2_w, u3⟩ := UBw.bw M_w (by omega)
      have u2_w := u2_w (by omega)
      have hM_w : M_w < E := by omega
      obtain ⟨m', r1_w, -⟩ := l170_w hT_w hE h16_w hM_w (by omega) (by omega) b4 b3 (IRw.bw hM_w u1_w.1 (by omega) b4) hz
      cases r1_w
