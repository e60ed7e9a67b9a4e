/-! ===== taken back: the reference's run ===== -/
def krb (m0_w m_w : dc_M) : Prop := (∀ b_w j_w, ¬ (b_w = 82 ∧ 43 ≤ j_w ∧ j_w ≤ 46) → m_w.1 b_w j_w = m0_w.1 b_w j_w) ∧ m_w.2 = m0_w.2
theorem krb.tw {c0_w m_w M_w : dc_M} (h_w : krb c0_w m_w) (g_w : krb m_w M_w) : krb c0_w M_w := ⟨fun b_w j_w hb_w => (g_w.1 b_w j_w hb_w).trans (h_w.1 b_w j_w hb_w), g_w.2.trans h_w.2⟩
theorem b185_w {x1_w x2_w x3 x4_w s0_w : Int32} {M_w : dc_M} {r_w : (Int32 × dc_M) ⊕ ((Int32 × dc_M) ⊕ ((Int32 × dc_M) ⊕ dc_M))} (h_w : d_X10_layBacks_b185 82 x1_w x2_w x3 x4_w s0_w 82 M_w = some r_w) : ∃ M', r_w = .inl (x4_w + 1, M') ∧ M'.1 82 43 = M_w.1 82 43 + 1 ∧ M'.1 82 44 = M_w.1 82 44 ∧ M'.1 82 45 = s0_w ∧ M'.1 82 46 = (if (M_w.1 82 43).toInt = 0 then x4_w else M_w.1 82 46) ∧ krb M_w M' := by
  unfold d_X10_layBacks_b185 at h_w
  have e43 : (dc_wi M_w 82 45 s0_w).1 82 43 = M_w.1 82 43 := wi_k (by omega)
  have e46 : (dc_wi M_w 82 45 s0_w).1 82 46 = M_w.1 82 46 := wi_k (by omega)
  rw [e43] at h_w
  by_cases c_w : (M_w.1 82 43).toInt = 0
  · rw [if_neg (fun q_w => q_w c_w)] at h_w
    refine ⟨_, (Option.some.inj h_w).symm, ?_, ?_, ?_, ?_, fun b_w j_w hb_w => ?_, rfl⟩
    · rw [wi_s, wi_k (by omega), e43]
    · rw [wi_k (by omega), wi_k (by omega), wi_k (by omega)]
    · rw [wi_k (by omega), wi_k (by omega)]; exact wi_s
    · rw [if_pos c_w, wi_k (by omega)]; exact wi_s
    · rw [wi_k (by omega), wi_k (by omega), wi_k (by omega)]
  · rw [if_pos c_w] at h_w
    refine ⟨_, (Option.some.inj h_w).symm, ?_, ?_, ?_, ?_, fun b_w j_w hb_w => ?_, rfl⟩
    · rw [wi_s, wi_k (by omega), e43]
    · rw [wi_k (by omega), wi_k (by omega), wi_k (by omega)]
    · rw [wi_k (by omega), wi_k (by omega)]; exact wi_s
    · rw [if_neg c_w, wi_k (by omega), wi_s, e46]
    · rw [wi_k (by omega), wi_k (by omega), wi_k (by omega)]
theorem b166_w {x1_w x2_w x3 x4_w s0_w : Int32} {M_w : dc_M} {r_w : (Int32 × dc_M) ⊕ ((Int32 × dc_M) ⊕ ((Int32 × dc_M) ⊕ dc_M))} (h_w : d_X10_layBacks_b166 82 x1_w x2_w x3 x4_w s0_w 82 M_w = some r_w) : ∃ M', r_w = .inl (x4_w + 1, M') ∧ M'.1 82 43 = M_w.1 82 43 + 1 ∧ M'.1 82 44 = s0_w ∧ M'.1 82 45 = (if (M_w.1 82 43).toInt = 0 then x2_w else M_w.1 82 45) ∧ M'.1 82 46 = (if (M_w.1 82 43).toInt = 0 then x4_w else M_w.1 82 46) ∧ krb M_w M' := by
  unfold d_X10_layBacks_b166 at h_w
  have e43 : (dc_wi M_w 82 44 s0_w).1 82 43 = M_w.1 82 43 := wi_k (by omega)
  have e44 : (dc_wi M_w 82 44 s0_w).1 82 44 = s0_w := wi_s
  have e45 : (dc_wi M_w 82 44 s0_w).1 82 45 = M_w.1 82 45 := wi_k (by omega)
  have e46 : (dc_wi M_w 82 44 s0_w).1 82 46 = M_w.1 82 46 := wi_k (by omega)
  have ek : krb M_w (dc_wi M_w 82 44 s0_w) := ⟨fun b_w j_w hb_w => wi_k (by omega), rfl⟩
  rw [e43, e45] at h_w
  generalize dc_wi M_w 82 44 s0_w = M1 at *
  by_cases c_w : (M_w.1 82 43).toInt = 0
  · rw [if_neg (fun q_w => q_w c_w)] at h_w
    obtain ⟨M', r1_w, r2, r3, r4, r5_w, r6⟩ := b185_w h_w
    rw [e43] at r2 r5_w
    rw [e46] at r5_w
    exact ⟨M', r1_w, r2, r3.trans e44, by rw [if_pos c_w]; exact r4, r5_w, ek.tw r6⟩
  · rw [if_pos c_w] at h_w
    obtain ⟨M', r1_w, r2, r3, r4, r5_w, r6⟩ := b185_w h_w
    rw [e43] at r2 r5_w
    rw [e46] at r5_w
    exact ⟨M', r1_w, r2, r3.trans e44, by rw [if_neg c_w]; exact r4, r5_w, ek.tw r6⟩
/-- a rise's events: what is so, of the reference's memory -/
def HDw (H_w : Nat → Nat → Nat → Bool) (E_w n_w : Nat) (m0_w : dc_M) : Prop := ∀ s k_w, s < n_w → k_w < E_w → ((m0_w.1 100 (16 * s + k_w)).toInt = -4 → ∀ e, e < E_w → H_w s k_w e = false) ∧ ((m0_w.1 84 (m0_w.1 85 k_w).toNatClampNeg).toInt ≤ 0 → ∀ e, e < E_w → H_w s k_w e = false) ∧ (¬ (m0_w.1 100 (16 * s + k_w)).toInt = -4 → ¬ (m0_w.1 84 (m0_w.1 85 k_w).toNatClampNeg).toInt ≤ 0 → ∀ e, e < E_w → ((m0_w.1 100 (16 * s + e)).toInt = -4 → H_w s k_w e = false) ∧ ((m0_w.1 85 e).toInt = (m0_w.1 85 k_w).toInt → H_w s k_w e = false) ∧ (¬ (m0_w.1 100 (16 * s + e)).toInt = -4 → ¬ (m0_w.1 85 e).toInt = (m0_w.1 85 k_w).toInt → ∀ M_w q_w, krb m0_w M_w → d_X10_excited 82 (m0_w.1 100 (16 * s + e)) M_w = some q_w → H_w s k_w e = !(b32 q_w (m0_w.1 85 k_w).toNatClampNeg)))
/-- the events of one rise -/
theorem l82_w {E_w n_w s k_w : Nat} {x3 : Int32} {H_w : Nat → Nat → Nat → Bool} {m0_w m_w : dc_M} {r_w : (Int32 × dc_M) ⊕ ((Int32 × dc_M) ⊕ dc_M)} (hE : (m0_w.1 82 3).toInt = E_w) (h16_w : E_w ≤ 16) (hn : n_w ≤ 200) (hs : s < n_w) (hk : k_w < E_w) (hw : ∀ k_w, k_w < E_w → 0 ≤ (m0_w.1 85 k_w).toInt ∧ (m0_w.1 85 k_w).toInt < 32) (h0 : x3.toInt = 0 → ∀ e, e < E_w → H_w s k_w e = false) (h1 : ¬ x3.toInt = 0 → ∀ e, e < E_w → ((m0_w.1 100 (16 * s + e)).toInt = -4 → H_w s k_w e = false) ∧ ((m0_w.1 85 e).toInt = (m0_w.1 85 k_w).toInt → H_w s k_w e = false) ∧ (¬ (m0_w.1 100 (16 * s + e)).toInt = -4 → ¬ (m0_w.1 85 e).toInt = (m0_w.1 85 k_w).toInt → ∀ M_w q_w, krb m0_w M_w → d_X10_excited 82 (m0_w.1 100 (16 * s + e)) M_w = some q_w → H_w s k_w e = !(b32 q_w (m0_w.1 85 k_w).toNatClampNeg))) (K_w : krb m0_w m_w) (Q_w : BKr H_w E_w s k_w 0 m_w) (h_w : d_X10_layBacks_l82 82 (Int32.ofNat s) (Int32.ofNat k_w) x3 0 m_w = some r_w) : ∃ m', r_w = .inl (Int32.ofNat k_w + 1, m') ∧ BKr H_w E_w s (k_w + 1) 0 m' ∧ krb m0_w m' := by
  unfold d_X10_layBacks_l82 at h_w
  have st_w : (Int32.ofNat s).toInt = s := mk_i (by omega)
  have kt : (Int32.ofNat k_w).toInt = k_w := mk_i (by omega)
  have kn_w : (Int32.ofNat k_w).toNatClampNeg = k_w := on_n (by omega)
  refine dc_lp_inv (s := ((0 : Int32), m_w)) (fun z_w : Int32 × dc_M => ∃ e : Nat, e ≤ E_w ∧ z_w.1 = Int32.ofNat e ∧ (x3.toInt = 0 → e = 0) ∧ BKr H_w E_w s k_w e z_w.2 ∧ krb m0_w z_w.2) (fun r_w : (Int32 × dc_M) ⊕ ((Int32 × dc_M) ⊕ dc_M) => ∃ m', r_w = .inl (Int32.ofNat k_w + 1, m') ∧ BKr H_w E_w s (k_w + 1) 0 m' ∧ krb m0_w m') (fun z_w z' hI hz => ?_) (fun z_w r_w hI hz => ?_) ⟨0, Nat.zero_le _, rfl, fun _ => rfl, Q_w, K_w⟩ h_w
  · obtain ⟨e, k1_w, k2_w, -, k3, k4⟩ := hI
    obtain ⟨x4_w, zm⟩ := z_w
    have k2_w : x4_w = Int32.ofNat e := k2_w
    have k3 : BKr H_w E_w s k_w e zm := k3
    have k4 : krb m0_w zm := k4
    have hz : d_X10_layBacks_l82b 82 (Int32.ofNat s) (Int32.ofNat k_w) x3 x4_w zm = some (.inl z') := hz
    unfold d_X10_layBacks_l82b at hz
    have xt : x4_w.toInt = e := by rw [k2_w]; exact mk_i (by omega)
    have nx : x4_w + 1 = Int32.ofNat (e + 1) := by rw [k2_w]; exact on_1 (by omega)
    rw [k4.1 82 3 (by omega), hE, xt] at hz
    by_cases c1_w : (E_w : Int) ≤ e
    · rw [if_pos c1_w] at hz; cases hz
    · rw [if_neg c1_w] at hz
      have eE : e < E_w := by omega
      have xn : x4_w.toNatClampNeg = e := by rw [k2_w]; exact on_n (by omega)
      by_cases c2_w : x3.toInt = 0
      · rw [if_pos c2_w] at hz; cases hz
      · obtain ⟨g1, g2, g3_w⟩ := h1 c2_w e eE
        have w_w := hw k_w hk
        rw [if_neg c2_w, ix_2 st_w (by omega) xt (by omega), xn, kn_w, show 82 + 18 = 100 from rfl, show 82 + 3 = 85 from rfl, k4.1 100 (16 * s + e) (by omega), k4.1 85 e (by omega), k4.1 85 k_w (by omega)] at hz
        have z3 : x3.toInt = 0 → e + 1 = 0 := fun q_w => absurd q_w c2_w
        by_cases c3_w : (m0_w.1 100 (16 * s + e)).toInt = -4
        · rw [if_pos c3_w] at hz
          have hz := Sum.inl.inj (Option.some.inj hz)
          rw [← hz]
          exact ⟨e + 1, by omega, nx, z3, k3.now (g1 c3_w), k4⟩
        · rw [if_neg c3_w] at hz
          by_cases c4_w : (m0_w.1 85 e).toInt = (m0_w.1 85 k_w).toInt
          · rw [if_pos c4_w] at hz
            have hz := Sum.inl.inj (Option.some.inj hz)
            rw [← hz]
            exact ⟨e + 1, by omega, nx, z3, k3.now (g2 c4_w), k4⟩
          · rw [if_neg c4_w] at hz
            cases hq : d_X10_excited 82 (m0_w.1 100 (16 * s + e)) zm with
            | none => rw [hq] at hz; cases hz
            | some q_w =>
              have g3_w := g3_w c3_w c4_w zm q_w k4 hq
              have t_w := b32_t (x := q_w) (e := m0_w.1 85 k_w) w_w
              rw [hq, Option.bind_some] at hz
              by_cases c5_w : ((q_w >>> (m0_w.1 85 k_w &&& 31)) &&& 1).toInt = 0
              · rw [if_neg (fun r_w => r_w c5_w)] at hz
                rw [t_w.mp c5_w] at g3_w
                have g3_w : H_w s k_w e = true := g3_w
                have bb : k_w < E_w ∧ e < E_w ∧ E_w ≤ 16 ∧ s < 200 := ⟨hk, eE, h16_w, by omega⟩
                by_cases c6_w : (zm.1 82 43).toInt = 0
                · rw [if_neg (fun r_w => r_w c6_w)] at hz
                  obtain ⟨M', r1_w, r2, r3, r4, r5_w, r6⟩ := b166_w hz
                  have r1_w := Sum.inl.inj r1_w
                  rw [r1_w]
                  exact ⟨e + 1, by omega, nx, z3, k3.htw bb g3_w r2 (by rw [if_pos c6_w]; exact r3) r4 (by rw [← k2_w]; exact r5_w), k4.tw r6⟩
                · rw [if_pos c6_w] at hz
                  obtain ⟨M', r1_w, r2, r3, r4, r5_w, r6⟩ := b166_w hz
                  have r1_w := Sum.inl.inj r1_w
                  rw [r1_w]
                  exact ⟨e + 1, by omega, nx, z3, k3.htw bb g3_w r2 (by rw [if_neg c6_w]; exact r3) r4 (by rw [← k2_w]; exact r5_w), k4.tw r6⟩
              · rw [if_pos c5_w] at hz
                have hz := Sum.inl.inj (Option.some.inj hz)
                rw [← hz]
                rw [eq_true_of_ne_false (fun r_w => c5_w (t_w.mpr r_w))] at g3_w
                exact ⟨e + 1, by omega, nx, z3, k3.now g3_w, k4⟩
  · obtain ⟨e, k1_w, k2_w, k5_w, k3, k4⟩ := hI
    obtain ⟨x4_w, zm⟩ := z_w
    have k2_w : x4_w = Int32.ofNat e := k2_w
    have k3 : BKr H_w E_w s k_w e zm := k3
    have k4 : krb m0_w zm := k4
    have hz : d_X10_layBacks_l82b 82 (Int32.ofNat s) (Int32.ofNat k_w) x3 x4_w zm = some (.inr r_w) := hz
    unfold d_X10_layBacks_l82b at hz
    have xt : x4_w.toInt = e := by rw [k2_w]; exact mk_i (by omega)
    rw [k4.1 82 3 (by omega), hE, xt] at hz
    by_cases c1_w : (E_w : Int) ≤ e
    · rw [if_pos c1_w] at hz
      have hz := Sum.inr.inj (Option.some.inj hz)
      have ke : e = E_w := by omega
      rw [ke] at k3
      exact ⟨zm, hz.symm, k3.ew, k4⟩
    · rw [if_neg c1_w] at hz
      by_cases c2_w : x3.toInt = 0
      · rw [if_pos c2_w] at hz
        have hz := Sum.inr.inj (Option.some.inj hz)
        rw [k5_w c2_w] at k3
        exact ⟨zm, hz.symm, k3.zw (h0 c2_w), k4⟩
      · rw [if_neg c2_w] at hz
        split at hz
        · cases hz
        · split at hz
          · cases hz
          · generalize d_X10_excited 82 _ zm = o at hz
            cases o with
            | none => cases hz
            | some q_w =>
              rw [Option.bind_some] at hz
              split at hz
              · cases hz
              · split at hz
                · obtain ⟨M', r1_w, -⟩ := b166_w hz
                  cases r1_w
                · obtain ⟨M', r1_w, -⟩ := b166_w hz
                  cases r1_w
theorem l35_w {E_w n_w s : Nat} {H_w : Nat → Nat → Nat → Bool} {m0_w m_w : dc_M} {r_w : (Int32 × dc_M) ⊕ dc_M} (hE : (m0_w.1 82 3).toInt = E_w) (h16_w : E_w ≤ 16) (hn : n_w ≤ 200) (hs : s < n_w) (hw : ∀ k_w, k_w < E_w → 0 ≤ (m0_w.1 85 k_w).toInt ∧ (m0_w.1 85 k_w).toInt < 32) (hH : HDw H_w E_w n_w m0_w) (K_w : krb m0_w m_w) (Q_w : BKr H_w E_w s 0 0 m_w) (h_w : d_X10_layBacks_l35 82 (Int32.ofNat s) 0 m_w = some r_w) : ∃ m', r_w = .inl (Int32.ofNat s + 1, m') ∧ BKr H_w E_w (s + 1) 0 0 m' ∧ krb m0_w m' := by
  unfold d_X10_layBacks_l35 at h_w
  have st_w : (Int32.ofNat s).toInt = s := mk_i (by omega)
  have step_w : ∀ (k_w : Nat) (zm : dc_M) (u_w : (Int32 × dc_M) ⊕ ((Int32 × dc_M) ⊕ dc_M)), k_w < E_w → BKr H_w E_w s k_w 0 zm → krb m0_w zm → d_X10_layBacks_l35b 82 (Int32.ofNat s) (Int32.ofNat k_w) zm = some u_w → ∃ m', u_w = .inl (Int32.ofNat k_w + 1, m') ∧ BKr H_w E_w s (k_w + 1) 0 m' ∧ krb m0_w m' := fun k_w zm u_w kE k3 k4 hz => by
    unfold d_X10_layBacks_l35b at hz
    have kt : (Int32.ofNat k_w).toInt = k_w := mk_i (by omega)
    have kn_w : (Int32.ofNat k_w).toNatClampNeg = k_w := on_n (by omega)
    obtain ⟨g1, g2, g3_w⟩ := hH s k_w hs kE
    rw [k4.1 82 3 (by omega), hE, kt, if_neg (show ¬ (E_w : Int) ≤ k_w by omega), ix_2 st_w (by omega) kt (by omega), kn_w, show 82 + 18 = 100 from rfl, show 82 + 2 = 84 from rfl, show 82 + 3 = 85 from rfl, k4.1 100 (16 * s + k_w) (by omega), k4.1 85 k_w (by omega), k4.1 84 (m0_w.1 85 k_w).toNatClampNeg (by omega)] at hz
    by_cases c2_w : (m0_w.1 100 (16 * s + k_w)).toInt = -4
    · rw [if_pos c2_w] at hz
      exact l82_w hE h16_w hn hs kE hw (fun _ => g1 c2_w) (fun q_w => absurd rfl q_w) k4 k3 hz
    · rw [if_neg c2_w] at hz
      by_cases c3_w : (m0_w.1 84 (m0_w.1 85 k_w).toNatClampNeg).toInt ≤ 0
      · rw [if_pos c3_w] at hz
        exact l82_w hE h16_w hn hs kE hw (fun _ => g2 c3_w) (fun q_w => absurd rfl q_w) k4 k3 hz
      · rw [if_neg c3_w] at hz
        exact l82_w hE h16_w hn hs kE hw (fun q_w => absurd q_w (by decide)) (fun _ => g3_w c2_w c3_w) k4 k3 hz
  refine dc_lp_inv (s := ((0 : Int32), m_w)) (fun z_w : Int32 × dc_M => ∃ k_w : Nat, k_w ≤ E_w ∧ z_w.1 = Int32.ofNat k_w ∧ BKr H_w E_w s k_w 0 z_w.2 ∧ krb m0_w z_w.2) (fun r_w : (Int32 × dc_M) ⊕ dc_M => ∃ m', r_w = .inl (Int32.ofNat s + 1, m') ∧ BKr H_w E_w (s + 1) 0 0 m' ∧ krb m0_w m') (fun z_w z' hI hz => ?_) (fun z_w r_w hI hz => ?_) ⟨0, Nat.zero_le _, rfl, Q_w, K_w⟩ h_w
  · obtain ⟨k_w, k1_w, k2_w, k3, k4⟩ := hI
    obtain ⟨x2_w, zm⟩ := z_w
    have k2_w : x2_w = Int32.ofNat k_w := k2_w
    have k3 : BKr H_w E_w s k_w 0 zm := k3
    have k4 : krb m0_w zm := k4
    have hz : d_X10_layBacks_l35b 82 (Int32.ofNat s) x2_w zm = some (.inl z') := hz
    rw [k2_w] at hz
    by_cases c1_w : k_w < E_w
    · obtain ⟨m', r1_w, r2, r3⟩ := step_w k_w zm _ c1_w k3 k4 hz
      have r1_w := Sum.inl.inj r1_w
      rw [r1_w]
      exact ⟨k_w + 1, by omega, on_1 (by omega), r2, r3⟩
    · unfold d_X10_layBacks_l35b at hz
      rw [k4.1 82 3 (by omega), hE, mk_i (by omega), if_pos (show (E_w : Int) ≤ k_w by omega)] at hz
      cases hz
  · obtain ⟨k_w, k1_w, k2_w, k3, k4⟩ := hI
    obtain ⟨x2_w, zm⟩ := z_w
    have k2_w : x2_w = Int32.ofNat k_w := k2_w
    have k3 : BKr H_w E_w s k_w 0 zm := k3
    have k4 : krb m0_w zm := k4
    have hz : d_X10_layBacks_l35b 82 (Int32.ofNat s) x2_w zm = some (.inr r_w) := hz
    rw [k2_w] at hz
    by_cases c1_w : k_w < E_w
    · obtain ⟨m', r1_w, r2, r3⟩ := step_w k_w zm _ c1_w k3 k4 hz
      cases r1_w
    · unfold d_X10_layBacks_l35b at hz
      rw [k4.1 82 3 (by omega), hE, mk_i (by omega), if_pos (show (E_w : Int) ≤ k_w by omega)] at hz
      have hz := Sum.inr.inj (Option.some.inj hz)
      have ke : k_w = E_w := by omega
      rw [ke] at k3
      exact ⟨zm, hz.symm, k3.sw, k4⟩
theorem lb_n {E_w n_w : Nat} {H_w : Nat → Nat → Nat → Bool} {m0_w e : dc_M} (hE : (m0_w.1 82 3).toInt = E_w) (h16_w : E_w ≤ 16) (hn : n_w ≤ 200) (h32 : (m0_w.1 82 32).toInt = n_w) (hw : ∀ k_w, k_w < E_w → 0 ≤ (m0_w.1 85 k_w).toInt ∧ (m0_w.1 85 k_w).toInt < 32) (hH : HDw H_w E_w n_w m0_w) (h_w : d_X10_layBacks 82 m0_w = some e) : BKr H_w E_w n_w 0 0 e ∧ krb m0_w e := by
  unfold d_X10_layBacks at h_w
  have v3 : (dc_wi (dc_wi (dc_wi (dc_wi m0_w 82 43 0) 82 44 (-4)) 82 45 (-4)) 82 46 (-4)).1 82 43 = 0 := by rw [wi_k (by omega), wi_k (by omega), wi_k (by omega)]; exact wi_s
  have v4_w : (dc_wi (dc_wi (dc_wi (dc_wi m0_w 82 43 0) 82 44 (-4)) 82 45 (-4)) 82 46 (-4)).1 82 44 = -4 := by rw [wi_k (by omega), wi_k (by omega)]; exact wi_s
  have v5 : (dc_wi (dc_wi (dc_wi (dc_wi m0_w 82 43 0) 82 44 (-4)) 82 45 (-4)) 82 46 (-4)).1 82 45 = -4 := by rw [wi_k (by omega)]; exact wi_s
  have v6 : (dc_wi (dc_wi (dc_wi (dc_wi m0_w 82 43 0) 82 44 (-4)) 82 45 (-4)) 82 46 (-4)).1 82 46 = -4 := wi_s
  have vk : krb m0_w (dc_wi (dc_wi (dc_wi (dc_wi m0_w 82 43 0) 82 44 (-4)) 82 45 (-4)) 82 46 (-4)) := ⟨fun b_w j_w hb_w => by rw [wi_k (by omega), wi_k (by omega), wi_k (by omega), wi_k (by omega)], rfl⟩
  generalize dc_wi (dc_wi (dc_wi (dc_wi m0_w 82 43 0) 82 44 (-4)) 82 45 (-4)) 82 46 (-4) = m1 at *
  unfold d_X10_layBacks_l25 at h_w
  refine dc_lp_inv (s := ((0 : Int32), m1)) (fun z_w : Int32 × dc_M => ∃ s : Nat, s ≤ n_w ∧ z_w.1 = Int32.ofNat s ∧ BKr H_w E_w s 0 0 z_w.2 ∧ krb m0_w z_w.2) (fun e : dc_M => BKr H_w E_w n_w 0 0 e ∧ krb m0_w e) (fun z_w z' hI hz => ?_) (fun z_w e hI hz => ?_) ⟨0, Nat.zero_le _, rfl, ⟨by rw [v3]; rfl, ?_⟩, vk⟩ h_w
  · obtain ⟨s, s1_w, s2_w, s3_w, s4_w⟩ := hI
    obtain ⟨x1_w, zm⟩ := z_w
    have s2_w : x1_w = Int32.ofNat s := s2_w
    have s3_w : BKr H_w E_w s 0 0 zm := s3_w
    have s4_w : krb m0_w zm := s4_w
    have hz : d_X10_layBacks_l25b 82 x1_w zm = some (.inl z') := hz
    unfold d_X10_layBacks_l25b at hz
    have xt : x1_w.toInt = s := by rw [s2_w]; exact mk_i (by omega)
    rw [s4_w.1 82 32 (by omega), h32, xt] at hz
    by_cases c1_w : (n_w : Int) ≤ s
    · rw [if_pos c1_w] at hz; cases hz
    · rw [if_neg c1_w, s2_w] at hz
      obtain ⟨m', r1_w, r2, r3⟩ := l35_w hE h16_w hn (by omega) hw hH s4_w s3_w hz
      have r1_w := Sum.inl.inj r1_w
      rw [r1_w]
      exact ⟨s + 1, by omega, on_1 (by omega), r2, r3⟩
  · obtain ⟨s, s1_w, s2_w, s3_w, s4_w⟩ := hI
    obtain ⟨x1_w, zm⟩ := z_w
    have s2_w : x1_w = Int32.ofNat s := s2_w
    have s3_w : BKr H_w E_w s 0 0 zm := s3_w
    have s4_w : krb m0_w zm := s4_w
    have hz : d_X10_layBacks_l25b 82 x1_w zm = some (.inr e) := hz
    unfold d_X10_layBacks_l25b at hz
    have xt : x1_w.toInt = s := by rw [s2_w]; exact mk_i (by omega)
    rw [s4_w.1 82 32 (by omega), h32, xt] at hz
    by_cases c1_w : (n_w : Int) ≤ s
    · rw [if_pos c1_w] at hz
      have hz := Sum.inr.inj (Option.some.inj hz)
      rw [← hz]
      have ke : s = n_w := by omega
      rw [ke] at s3_w
      exact ⟨s3_w, s4_w⟩
    · rw [if_neg c1_w, s2_w] at hz
      obtain ⟨m', r1_w, -⟩ := l35_w hE h16_w hn (by omega) hw hH s4_w s3_w hz
      cases r1_w
  · show FBw _ _ (m1.1 82 44) (m1.1 82 45) (m1.1 82 46) (m1.1 82 43)
    rw [v3, v4_w, v5, v6]
    exact Or.inl ⟨rfl, rfl, rfl, rfl, fun s k_w e hx => by unfold XRw at hx; omega⟩
