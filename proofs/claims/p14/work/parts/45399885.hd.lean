/-! ===== states that lead home: the reference's way ===== -/
theorem nar_1 {t_w : Nat} : dc_nar t_w 1 = 1 := by
  unfold dc_nar
  split
  · rfl
  · rfl
theorem nar_0 {t_w : Nat} : dc_nar t_w 0 = 0 := by
  unfold dc_nar
  split
  · rfl
  · rfl
theorem n4v_w {x_w : Int32} : x_w.toInt = -4 ↔ x_w = -4 := ⟨fun q_w => Int32.toInt_inj.mp (q_w.trans (show (-4 : Int) = ((-4 : Int32)).toInt from rfl)), fun q_w => by rw [q_w]; rfl⟩
def HRr (G_w : Nat → Nat → Prop) (n_w : Nat) (m0_w m_w : dc_M) : Prop := (∀ b_w j_w, b_w ≠ 102 → m_w.1 b_w j_w = m0_w.1 b_w j_w) ∧ m_w.2 = m0_w.2 ∧ m_w.1 102 0 = 1 ∧ ∀ i_w, i_w < n_w → (m_w.1 102 i_w = 0 ∨ m_w.1 102 i_w = 1) ∧ (m_w.1 102 i_w = 1 → RHg G_w i_w)
def GRw (G_w : Nat → Nat → Prop) (n_w E_w : Nat) (m0_w : dc_M) : Prop := (∀ i_w t_w, G_w i_w t_w → i_w < n_w ∧ t_w < n_w) ∧ ∀ i_w, i_w < n_w → ∀ t_w, G_w i_w t_w ↔ ∃ k_w, k_w < E_w ∧ m0_w.1 100 (16 * i_w + k_w) ≠ -4 ∧ (m0_w.1 100 (16 * i_w + k_w)).toNatClampNeg = t_w
def HDr (G_w : Nat → Nat → Prop) (s : Nat) (m_w : dc_M) : Prop := ∀ i_w, i_w < s → m_w.1 102 i_w = 0 → ∀ t_w, G_w i_w t_w → ¬ m_w.1 102 t_w = 1
theorem l116_w {G_w : Nat → Nat → Prop} {n_w E_w s : Nat} {x1_w x2_w x3 x4_w : Int32} {m0_w m_w : dc_M} {u_w : (Int32 × Int32 × dc_M) ⊕ ((Int32 × dc_M) ⊕ (Int32 × dc_M))} (n2_w : n_w ≤ 200) (hE : (m0_w.1 82 3).toInt = E_w) (h16_w : E_w ≤ 16) (hs : s < n_w) (gc_w : GRw G_w n_w E_w m0_w) (H_w : HRr G_w n_w m0_w m_w) (D_w : x4_w.toInt = 0 → HDr G_w s m_w) (h_w : d_X10_stuck_l116 82 x1_w x2_w x3 (Int32.ofNat s) x4_w 0 m_w = some u_w) : ∃ x4' m', u_w = .inl (x4', Int32.ofNat s + 1, m') ∧ HRr G_w n_w m0_w m' ∧ (x4'.toInt = 0 → HDr G_w (s + 1) m') := by
  have ts : (Int32.ofNat s).toInt = s := mk_i (by omega)
  have ns : (Int32.ofNat s).toNatClampNeg = s := on_n (by omega)
  unfold d_X10_stuck_l116 at h_w
  refine dc_lp_inv (s := (x4_w, (0 : Int32), m_w)) (fun z_w : Int32 × Int32 × dc_M => ∃ e_w, e_w ≤ E_w ∧ z_w.2.1 = Int32.ofNat e_w ∧ HRr G_w n_w m0_w z_w.2.2 ∧ (z_w.1.toInt = 0 → HDr G_w s z_w.2.2 ∧ (z_w.2.2.1 102 s = 0 → ∀ k_w, k_w < e_w → m0_w.1 100 (16 * s + k_w) ≠ -4 → ¬ z_w.2.2.1 102 (m0_w.1 100 (16 * s + k_w)).toNatClampNeg = 1))) (fun u_w : (Int32 × Int32 × dc_M) ⊕ ((Int32 × dc_M) ⊕ (Int32 × dc_M)) => ∃ x4' m', u_w = .inl (x4', Int32.ofNat s + 1, m') ∧ HRr G_w n_w m0_w m' ∧ (x4'.toInt = 0 → HDr G_w (s + 1) m')) (fun z_w z' hI hz => ?_) (fun z_w u_w hI hz => ?_) ⟨0, Nat.zero_le _, rfl, H_w, fun e_w => ⟨D_w e_w, fun _ k_w hk => absurd hk (Nat.not_lt_zero k_w)⟩⟩ h_w
  · obtain ⟨e_w, e1_w, e2_w, e3_w, e4_w⟩ := hI
    obtain ⟨y4, x6, zm⟩ := z_w
    have e2_w : x6 = Int32.ofNat e_w := e2_w
    have e3_w : HRr G_w n_w m0_w zm := e3_w
    have e4_w : y4.toInt = 0 → HDr G_w s zm ∧ (zm.1 102 s = 0 → ∀ k_w, k_w < e_w → m0_w.1 100 (16 * s + k_w) ≠ -4 → ¬ zm.1 102 (m0_w.1 100 (16 * s + k_w)).toNatClampNeg = 1) := e4_w
    have hz : d_X10_stuck_l116b 82 x1_w x2_w x3 (Int32.ofNat s) y4 x6 zm = some (.inl z') := hz
    unfold d_X10_stuck_l116b at hz
    have xt : x6.toInt = e_w := by rw [e2_w]; exact mk_i (by omega)
    have nx : x6 + 1 = Int32.ofNat (e_w + 1) := by rw [e2_w]; exact on_1 (by omega)
    obtain ⟨h1, h2, h3, h4⟩ := e3_w
    rw [h1 82 3 (by decide), hE, xt] at hz
    by_cases c1_w : (E_w : Int) ≤ e_w
    · rw [if_pos c1_w] at hz; cases hz
    · rw [if_neg c1_w, ns, ix_2 ts (by omega) xt (by omega), show 82 + 20 = 102 from rfl, show 82 + 18 = 100 from rfl, h1 100 (16 * s + e_w) (by decide)] at hz
      by_cases c2_w : (zm.1 102 s).toInt = 0
      · rw [if_neg (fun q_w => q_w c2_w)] at hz
        have s0_w : zm.1 102 s = 0 := Int32.toInt_inj.mp c2_w
        by_cases c3_w : (m0_w.1 100 (16 * s + e_w)).toInt = -4
        · rw [if_pos c3_w] at hz
          have hz := Sum.inl.inj (Option.some.inj hz)
          rw [← hz]
          refine ⟨e_w + 1, by omega, nx, ⟨h1, h2, h3, h4⟩, fun q_w => ⟨(e4_w q_w).1, fun q0 k_w hk hc_w => ?_⟩⟩
          by_cases ek : k_w = e_w
          · rw [ek] at hc_w
            exact absurd (n4v_w.mp c3_w) hc_w
          · exact (e4_w q_w).2 q0 k_w (by omega) hc_w
        · rw [if_neg c3_w] at hz
          have g_w : G_w s (m0_w.1 100 (16 * s + e_w)).toNatClampNeg := (gc_w.2 s hs _).mpr ⟨e_w, by omega, fun r_w => c3_w (n4v_w.mpr r_w), rfl⟩
          have gt := (gc_w.1 _ _ g_w).2
          by_cases c4_w : (zm.1 102 (m0_w.1 100 (16 * s + e_w)).toNatClampNeg).toInt = 0
          · rw [if_pos c4_w] at hz
            have hz := Sum.inl.inj (Option.some.inj hz)
            rw [← hz]
            refine ⟨e_w + 1, by omega, nx, ⟨h1, h2, h3, h4⟩, fun q_w => ⟨(e4_w q_w).1, fun q0 k_w hk hc_w => ?_⟩⟩
            by_cases ek : k_w = e_w
            · rw [ek]
              show ¬ zm.1 102 (m0_w.1 100 (16 * s + e_w)).toNatClampNeg = 1
              rw [show zm.1 102 (m0_w.1 100 (16 * s + e_w)).toNatClampNeg = 0 from Int32.toInt_inj.mp c4_w]
              exact i01
            · exact (e4_w q_w).2 q0 k_w (by omega) hc_w
          · rw [if_neg c4_w, nar_1] at hz
            have hz := Sum.inl.inj (Option.some.inj hz)
            rw [← hz]
            have s1_w : ¬ s = 0 := fun r_w => by rw [r_w, h3] at s0_w; exact i01 s0_w.symm
            have t1_w : zm.1 102 (m0_w.1 100 (16 * s + e_w)).toNatClampNeg = 1 := by
              rcases (h4 _ gt).1 with r_w | r_w
              · rw [r_w] at c4_w; exact absurd rfl c4_w
              · exact r_w
            refine ⟨e_w + 1, by omega, nx, ⟨fun b_w j_w hb_w => (wi_k (by omega)).trans (h1 b_w j_w hb_w), h2, (wi_k (by omega)).trans h3, fun i_w hi_w => ?_⟩, fun q_w => absurd q_w (show ¬ (1 : Int32).toInt = 0 by decide)⟩
            by_cases ei : i_w = s
            · rw [ei]
              have w_w : (dc_wi zm 102 s 1).1 102 s = 1 := wi_s
              exact ⟨Or.inr w_w, fun _ => RHg.sw g_w ((h4 _ gt).2 t1_w)⟩
            · have w_w : (dc_wi zm 102 s 1).1 102 i_w = zm.1 102 i_w := wi_k (by omega)
              show ((dc_wi zm 102 s 1).1 102 i_w = 0 ∨ (dc_wi zm 102 s 1).1 102 i_w = 1) ∧ ((dc_wi zm 102 s 1).1 102 i_w = 1 → RHg G_w i_w)
              rw [w_w]
              exact h4 i_w hi_w
      · rw [if_pos c2_w] at hz; cases hz
  · obtain ⟨e_w, e1_w, e2_w, e3_w, e4_w⟩ := hI
    obtain ⟨y4, x6, zm⟩ := z_w
    have e2_w : x6 = Int32.ofNat e_w := e2_w
    have e3_w : HRr G_w n_w m0_w zm := e3_w
    have e4_w : y4.toInt = 0 → HDr G_w s zm ∧ (zm.1 102 s = 0 → ∀ k_w, k_w < e_w → m0_w.1 100 (16 * s + k_w) ≠ -4 → ¬ zm.1 102 (m0_w.1 100 (16 * s + k_w)).toNatClampNeg = 1) := e4_w
    have hz : d_X10_stuck_l116b 82 x1_w x2_w x3 (Int32.ofNat s) y4 x6 zm = some (.inr u_w) := hz
    unfold d_X10_stuck_l116b at hz
    have xt : x6.toInt = e_w := by rw [e2_w]; exact mk_i (by omega)
    rw [e3_w.1 82 3 (by decide), hE, xt, ns, show 82 + 20 = 102 from rfl] at hz
    by_cases c1_w : (E_w : Int) ≤ e_w
    · rw [if_pos c1_w] at hz
      have hz := Sum.inr.inj (Option.some.inj hz)
      refine ⟨y4, zm, hz.symm, e3_w, fun q_w i_w hi_w i0_w t_w gt => ?_⟩
      by_cases ei : i_w = s
      · rw [ei] at gt i0_w
        obtain ⟨k_w, k1_w, k2_w, k3_w⟩ := (gc_w.2 s hs t_w).mp gt
        rw [← k3_w]
        exact (e4_w q_w).2 i0_w k_w (by omega) k2_w
      · exact (e4_w q_w).1 i_w (by omega) i0_w t_w gt
    · rw [if_neg c1_w] at hz
      by_cases c2_w : ¬ (zm.1 102 s).toInt = 0
      · rw [if_pos c2_w] at hz
        have hz := Sum.inr.inj (Option.some.inj hz)
        refine ⟨y4, zm, hz.symm, e3_w, fun q_w i_w hi_w i0_w t_w gt => ?_⟩
        by_cases ei : i_w = s
        · rw [ei] at i0_w
          rw [i0_w] at c2_w
          exact absurd rfl c2_w
        · exact (e4_w q_w).1 i_w (by omega) i0_w t_w gt
      · rw [if_neg c2_w] at hz
        split at hz
        · cases hz
        · split at hz
          · cases hz
          · cases hz
theorem l104_w {G_w : Nat → Nat → Prop} {n_w E_w : Nat} {x1_w x2_w x3 : Int32} {m0_w m_w : dc_M} {u_w : (Int32 × dc_M) ⊕ (Int32 × dc_M)} (n2_w : n_w ≤ 200) (hn : (m0_w.1 82 32).toInt = n_w) (hE : (m0_w.1 82 3).toInt = E_w) (h16_w : E_w ≤ 16) (gc_w : GRw G_w n_w E_w m0_w) (H_w : HRr G_w n_w m0_w m_w) (h_w : d_X10_stuck_l104 82 x1_w x2_w x3 0 0 m_w = some u_w) : ∃ x4' m', u_w = .inl (x4', m') ∧ HRr G_w n_w m0_w m' ∧ (x4'.toInt = 0 → HDr G_w n_w m') := by
  unfold d_X10_stuck_l104 at h_w
  refine dc_lp_inv (s := ((0 : Int32), (0 : Int32), m_w)) (fun z_w : Int32 × Int32 × dc_M => ∃ s, s ≤ n_w ∧ z_w.2.1 = Int32.ofNat s ∧ HRr G_w n_w m0_w z_w.2.2 ∧ (z_w.1.toInt = 0 → HDr G_w s z_w.2.2)) (fun u_w : (Int32 × dc_M) ⊕ (Int32 × dc_M) => ∃ x4' m', u_w = .inl (x4', m') ∧ HRr G_w n_w m0_w m' ∧ (x4'.toInt = 0 → HDr G_w n_w m')) (fun z_w z' hI hz => ?_) (fun z_w u_w hI hz => ?_) ⟨0, Nat.zero_le _, rfl, H_w, fun _ i_w hi_w => absurd hi_w (Nat.not_lt_zero i_w)⟩ h_w
  · obtain ⟨s, s1_w, s2_w, s3_w, s4_w⟩ := hI
    obtain ⟨y4, x5_w, zm⟩ := z_w
    have s2_w : x5_w = Int32.ofNat s := s2_w
    have s3_w : HRr G_w n_w m0_w zm := s3_w
    have hz : d_X10_stuck_l104b 82 x1_w x2_w x3 y4 x5_w zm = some (.inl z') := hz
    unfold d_X10_stuck_l104b at hz
    have xt : x5_w.toInt = s := by rw [s2_w]; exact mk_i (by omega)
    rw [s3_w.1 82 32 (by decide), hn, xt] at hz
    by_cases c1_w : (n_w : Int) ≤ s
    · rw [if_pos c1_w] at hz; cases hz
    · rw [if_neg c1_w, s2_w] at hz
      obtain ⟨y_w, m', r1_w, r2, r3⟩ := l116_w n2_w hE h16_w (by omega) gc_w s3_w s4_w hz
      have r1_w := Sum.inl.inj r1_w
      rw [r1_w]
      exact ⟨s + 1, by omega, on_1 (by omega), r2, r3⟩
  · obtain ⟨s, s1_w, s2_w, s3_w, s4_w⟩ := hI
    obtain ⟨y4, x5_w, zm⟩ := z_w
    have s2_w : x5_w = Int32.ofNat s := s2_w
    have s3_w : HRr G_w n_w m0_w zm := s3_w
    have s4_w : y4.toInt = 0 → HDr G_w s zm := s4_w
    have hz : d_X10_stuck_l104b 82 x1_w x2_w x3 y4 x5_w zm = some (.inr u_w) := hz
    unfold d_X10_stuck_l104b at hz
    have xt : x5_w.toInt = s := by rw [s2_w]; exact mk_i (by omega)
    rw [s3_w.1 82 32 (by decide), hn, xt] at hz
    by_cases c1_w : (n_w : Int) ≤ s
    · rw [if_pos c1_w] at hz
      have hz := Sum.inr.inj (Option.some.inj hz)
      have sn : s = n_w := by omega
      rw [sn] at s4_w
      exact ⟨y4, zm, hz.symm, s3_w, s4_w⟩
    · rw [if_neg c1_w, s2_w] at hz
      obtain ⟨y_w, m', r1_w, -⟩ := l116_w n2_w hE h16_w (by omega) gc_w s3_w s4_w hz
      cases r1_w
theorem l240_w {E_w : Nat} {x1_w x2_w x3 x5_w : Int32} {m_w : dc_M} {v_w : Int32 × dc_M} (hE : (m_w.1 82 3).toInt = E_w) (h16_w : E_w ≤ 16) (h_w : d_X10_stuck_l240 82 x1_w x2_w x3 x5_w 0 0 m_w = some v_w) : (x1_w.toInt = 0 → v_w.1 = x2_w) ∧ (x1_w.toInt = 1 → v_w.1 = x5_w) ∧ (¬ x1_w.toInt = 0 → ¬ x1_w.toInt = 1 → v_w.1 = Int32.ofNat (ctw (fun k_w => !(b32 x3 k_w)) E_w)) := by
  unfold d_X10_stuck_l240 at h_w
  refine dc_lp_inv (s := ((0 : Int32), (0 : Int32))) (fun z_w : Int32 × Int32 => ∃ k_w, k_w ≤ E_w ∧ z_w.2 = Int32.ofNat k_w ∧ z_w.1 = Int32.ofNat (ctw (fun k_w => !(b32 x3 k_w)) k_w)) (fun v_w : Int32 × dc_M => (x1_w.toInt = 0 → v_w.1 = x2_w) ∧ (x1_w.toInt = 1 → v_w.1 = x5_w) ∧ (¬ x1_w.toInt = 0 → ¬ x1_w.toInt = 1 → v_w.1 = Int32.ofNat (ctw (fun k_w => !(b32 x3 k_w)) E_w))) (fun z_w z' hI hz => ?_) (fun z_w v_w hI hz => ?_) ⟨0, Nat.zero_le _, rfl, rfl⟩ h_w
  · obtain ⟨k_w, k1_w, k2_w, k3_w⟩ := hI
    obtain ⟨x6, x7⟩ := z_w
    have k2_w : x7 = Int32.ofNat k_w := k2_w
    have k3_w : x6 = Int32.ofNat (ctw (fun k_w => !(b32 x3 k_w)) k_w) := k3_w
    have hz : d_X10_stuck_l240b 82 x1_w x2_w x3 x5_w x6 x7 m_w = some (.inl z') := hz
    unfold d_X10_stuck_l240b at hz
    have xt : x7.toInt = k_w := by rw [k2_w]; exact mk_i (by omega)
    have xn : x7.toNatClampNeg = k_w := by rw [k2_w]; exact on_n (by omega)
    rw [hE, xt] at hz
    by_cases c1_w : (E_w : Int) ≤ k_w
    · rw [if_pos c1_w] at hz
      generalize d_X10_stuck_b268 x1_w x2_w x5_w x6 m_w = o at hz
      cases o with
      | none => cases hz
      | some q_w => cases hz
    · rw [if_neg c1_w] at hz
      have hz := Sum.inl.inj (Option.some.inj hz)
      rw [← hz]
      have cb := ctw_le (p := fun k_w => !(b32 x3 k_w)) k_w
      refine ⟨k_w + 1, by omega, by show x7 + 1 = _; rw [k2_w]; exact on_1 (by omega), ?_⟩
      show x6 + ((1 : Int32) - ((x3 >>> (x7 &&& 31)) &&& 1)) = Int32.ofNat (ctw (fun k_w => !(b32 x3 k_w)) k_w + (if (!(b32 x3 k_w)) = true then 1 else 0))
      rw [b32_v ⟨by omega, by omega⟩, xn, k3_w]
      cases b32 x3 k_w with
      | true =>
        rw [if_pos (show true = true from rfl), if_neg (show ¬ (!true) = true by decide), show (1 : Int32) - 1 = 0 from rfl, Int32.add_zero, Nat.add_zero]
      | false =>
        rw [if_neg (show ¬ false = true by decide), if_pos (show (!false) = true from rfl), show (1 : Int32) - 0 = 1 from rfl]
        exact on_1 (by omega)
  · obtain ⟨k_w, k1_w, k2_w, k3_w⟩ := hI
    obtain ⟨x6, x7⟩ := z_w
    have k2_w : x7 = Int32.ofNat k_w := k2_w
    have k3_w : x6 = Int32.ofNat (ctw (fun k_w => !(b32 x3 k_w)) k_w) := k3_w
    have hz : d_X10_stuck_l240b 82 x1_w x2_w x3 x5_w x6 x7 m_w = some (.inr v_w) := hz
    unfold d_X10_stuck_l240b at hz
    have xt : x7.toInt = k_w := by rw [k2_w]; exact mk_i (by omega)
    rw [hE, xt] at hz
    by_cases c1_w : (E_w : Int) ≤ k_w
    · rw [if_pos c1_w] at hz
      have ke : k_w = E_w := by omega
      rw [ke] at k3_w
      unfold d_X10_stuck_b268 at hz
      by_cases c2_w : x1_w.toInt = 0
      · rw [if_neg (fun q_w => q_w c2_w)] at hz
        have hz := Sum.inr.inj (Option.some.inj hz)
        rw [← hz]
        exact ⟨fun _ => rfl, fun q_w => by omega, fun q_w => absurd c2_w q_w⟩
      · rw [if_pos c2_w] at hz
        by_cases c3_w : x1_w.toInt = 1
        · rw [if_neg (fun q_w => q_w c3_w)] at hz
          have hz := Sum.inr.inj (Option.some.inj hz)
          rw [← hz]
          exact ⟨fun q_w => by omega, fun _ => rfl, fun _ q_w => absurd c3_w q_w⟩
        · rw [if_pos c3_w] at hz
          have hz := Sum.inr.inj (Option.some.inj hz)
          rw [← hz]
          exact ⟨fun q_w => absurd q_w c2_w, fun q_w => absurd q_w c3_w, fun _ _ => k3_w⟩
    · rw [if_neg c1_w] at hz; cases hz
def SAw (G_w : Nat → Nat → Prop) (n_w E_w : Nat) (x1_w x2_w x3 : Int32) (v_w : Int32 × dc_M) : Prop := ∃ f : Nat → Bool, (∀ i_w, i_w < n_w → (f i_w = true ↔ RHg G_w i_w)) ∧ (x1_w.toInt = 0 → v_w.1 = x2_w) ∧ (x1_w.toInt = 1 → v_w.1 = Int32.ofNat (ctw (fun i_w => !(f i_w)) n_w)) ∧ (¬ x1_w.toInt = 0 → ¬ x1_w.toInt = 1 → v_w.1 = Int32.ofNat (ctw (fun k_w => !(b32 x3 k_w)) E_w))
theorem l202_w {G_w : Nat → Nat → Prop} {n_w E_w : Nat} {x1_w x2_w x3 : Int32} {m0_w m_w : dc_M} {v_w : Int32 × dc_M} (n2_w : n_w ≤ 200) (hn : (m0_w.1 82 32).toInt = n_w) (hE : (m0_w.1 82 3).toInt = E_w) (h16_w : E_w ≤ 16) (gc_w : GRw G_w n_w E_w m0_w) (H_w : HRr G_w n_w m0_w m_w) (D_w : HDr G_w n_w m_w) (h_w : d_X10_stuck_l202 82 x1_w x2_w x3 0 0 0 m_w = some v_w) : SAw G_w n_w E_w x1_w x2_w x3 v_w := by
  obtain ⟨h1, h2, h3, h4⟩ := H_w
  unfold d_X10_stuck_l202 at h_w
  have fok : ∀ i_w, i_w < n_w → ((decide (m_w.1 102 i_w = 1)) = true ↔ RHg G_w i_w) := fun i_w hi_w => ⟨fun q_w => (h4 i_w hi_w).2 (of_decide_eq_true q_w), fun r_w => decide_eq_true (RHg.cw (f := fun i_w => m_w.1 102 i_w = 1) h3 (fun i_w t_w g_w ht => by
    have gn := gc_w.1 i_w t_w g_w
    rcases (h4 i_w gn.1).1 with q_w | q_w
    · exact absurd ht (D_w i_w gn.1 q_w t_w g_w)
    · exact q_w) r_w)⟩
  refine dc_lp_inv (s := ((0 : Int32), (0 : Int32))) (fun z_w : Int32 × Int32 => ∃ i_w, i_w ≤ n_w ∧ z_w.2 = Int32.ofNat i_w ∧ z_w.1 = Int32.ofNat (ctw (fun i_w => !(decide (m_w.1 102 i_w = 1))) i_w)) (fun v_w : Int32 × dc_M => SAw G_w n_w E_w x1_w x2_w x3 v_w) (fun z_w z' hI hz => ?_) (fun z_w v_w hI hz => ?_) ⟨0, Nat.zero_le _, rfl, rfl⟩ h_w
  · obtain ⟨i_w, i1_w, i2_w, i3_w⟩ := hI
    obtain ⟨x5_w, x7⟩ := z_w
    have i2_w : x7 = Int32.ofNat i_w := i2_w
    have i3_w : x5_w = Int32.ofNat (ctw (fun i_w => !(decide (m_w.1 102 i_w = 1))) i_w) := i3_w
    have hz : d_X10_stuck_l202b 82 x1_w x2_w x3 0 x5_w x7 m_w = some (.inl z') := hz
    unfold d_X10_stuck_l202b at hz
    have xt : x7.toInt = i_w := by rw [i2_w]; exact mk_i (by omega)
    have xn : x7.toNatClampNeg = i_w := by rw [i2_w]; exact on_n (by omega)
    rw [h1 82 32 (by decide), hn, xt, xn, show 82 + 20 = 102 from rfl] at hz
    by_cases c1_w : (n_w : Int) ≤ i_w
    · rw [if_pos c1_w] at hz
      generalize d_X10_stuck_l240 82 x1_w x2_w x3 x5_w 0 0 m_w = o at hz
      cases o with
      | none => cases hz
      | some q_w => cases hz
    · rw [if_neg c1_w] at hz
      have cb := ctw_le (p := fun i_w => !(decide (m_w.1 102 i_w = 1))) i_w
      have e_w : ctw (fun i_w => !(decide (m_w.1 102 i_w = 1))) (i_w + 1) = ctw (fun i_w => !(decide (m_w.1 102 i_w = 1))) i_w + (if (!(decide (m_w.1 102 i_w = 1))) = true then 1 else 0) := rfl
      by_cases c2_w : (m_w.1 102 i_w).toInt = 0
      · rw [if_pos c2_w] at hz
        have hz := Sum.inl.inj (Option.some.inj hz)
        rw [← hz]
        refine ⟨i_w + 1, by omega, by show x7 + 1 = _; rw [i2_w]; exact on_1 (by omega), ?_⟩
        show x5_w + 1 = _
        rw [e_w, show m_w.1 102 i_w = 0 from Int32.toInt_inj.mp c2_w, decide_eq_false i01, if_pos (show (!false) = true from rfl), i3_w]
        exact on_1 (by omega)
      · rw [if_neg c2_w] at hz
        have hz := Sum.inl.inj (Option.some.inj hz)
        rw [← hz]
        have m1_w : m_w.1 102 i_w = 1 := by
          rcases (h4 i_w (by omega)).1 with r_w | r_w
          · rw [r_w] at c2_w; exact absurd rfl c2_w
          · exact r_w
        refine ⟨i_w + 1, by omega, by show x7 + 1 = _; rw [i2_w]; exact on_1 (by omega), ?_⟩
        show x5_w + 0 = _
        rw [e_w, m1_w, decide_eq_true (show (1 : Int32) = 1 from rfl), if_neg (show ¬ (!true) = true by decide), i3_w, Int32.add_zero, Nat.add_zero]
  · obtain ⟨i_w, i1_w, i2_w, i3_w⟩ := hI
    obtain ⟨x5_w, x7⟩ := z_w
    have i2_w : x7 = Int32.ofNat i_w := i2_w
    have i3_w : x5_w = Int32.ofNat (ctw (fun i_w => !(decide (m_w.1 102 i_w = 1))) i_w) := i3_w
    have hz : d_X10_stuck_l202b 82 x1_w x2_w x3 0 x5_w x7 m_w = some (.inr v_w) := hz
    unfold d_X10_stuck_l202b at hz
    have xt : x7.toInt = i_w := by rw [i2_w]; exact mk_i (by omega)
    rw [h1 82 32 (by decide), hn, xt] at hz
    by_cases c1_w : (n_w : Int) ≤ i_w
    · rw [if_pos c1_w] at hz
      have ie : i_w = n_w := by omega
      rw [ie] at i3_w
      cases hq : d_X10_stuck_l240 82 x1_w x2_w x3 x5_w 0 0 m_w with
      | none => rw [hq] at hz; cases hz
      | some q_w =>
        rw [hq] at hz
        have hz := Sum.inr.inj (Option.some.inj hz)
        rw [← hz]
        obtain ⟨r1_w, r2, r3⟩ := l240_w (by rw [h1 82 3 (by decide)]; exact hE) h16_w hq
        exact ⟨fun i_w => decide (m_w.1 102 i_w = 1), fok, r1_w, fun e_w => (r2 e_w).trans i3_w, r3⟩
    · rw [if_neg c1_w] at hz
      split at hz
      · cases hz
      · cases hz
theorem l93_w {G_w : Nat → Nat → Prop} {n_w E_w : Nat} {x1_w x2_w x3 : Int32} {m0_w m_w : dc_M} {v_w : Int32 × dc_M} (n2_w : n_w ≤ 200) (hn : (m0_w.1 82 32).toInt = n_w) (hE : (m0_w.1 82 3).toInt = E_w) (h16_w : E_w ≤ 16) (gc_w : GRw G_w n_w E_w m0_w) (H_w : HRr G_w n_w m0_w m_w) (h_w : d_X10_stuck_l93 82 x1_w x2_w x3 1 m_w = some v_w) : SAw G_w n_w E_w x1_w x2_w x3 v_w := by
  unfold d_X10_stuck_l93 at h_w
  refine dc_lp_inv (s := ((1 : Int32), m_w)) (fun z_w : Int32 × dc_M => HRr G_w n_w m0_w z_w.2 ∧ (z_w.1.toInt = 0 → HDr G_w n_w z_w.2)) (fun v_w : Int32 × dc_M => SAw G_w n_w E_w x1_w x2_w x3 v_w) (fun z_w z' hI hz => ?_) (fun z_w v_w hI hz => ?_) ⟨H_w, fun q_w => absurd q_w (show ¬ (1 : Int32).toInt = 0 by decide)⟩ h_w
  · obtain ⟨i1_w, i2_w⟩ := hI
    obtain ⟨x4_w, zm⟩ := z_w
    have hz : d_X10_stuck_l93b 82 x1_w x2_w x3 x4_w zm = some (.inl z') := hz
    unfold d_X10_stuck_l93b at hz
    by_cases c1_w : x4_w.toInt = 0
    · rw [if_pos c1_w] at hz
      generalize d_X10_stuck_l202 82 x1_w x2_w x3 0 0 0 zm = o at hz
      cases o with
      | none => cases hz
      | some q_w => cases hz
    · rw [if_neg c1_w] at hz
      obtain ⟨y_w, m', r1_w, r2, r3⟩ := l104_w n2_w hn hE h16_w gc_w i1_w hz
      have r1_w := Sum.inl.inj r1_w
      rw [r1_w]
      exact ⟨r2, r3⟩
  · obtain ⟨i1_w, i2_w⟩ := hI
    obtain ⟨x4_w, zm⟩ := z_w
    have i2_w : x4_w.toInt = 0 → HDr G_w n_w zm := i2_w
    have hz : d_X10_stuck_l93b 82 x1_w x2_w x3 x4_w zm = some (.inr v_w) := hz
    unfold d_X10_stuck_l93b at hz
    by_cases c1_w : x4_w.toInt = 0
    · rw [if_pos c1_w] at hz
      cases hq : d_X10_stuck_l202 82 x1_w x2_w x3 0 0 0 zm with
      | none => rw [hq] at hz; cases hz
      | some q_w =>
        rw [hq] at hz
        have hz := Sum.inr.inj (Option.some.inj hz)
        rw [← hz]
        exact l202_w n2_w hn hE h16_w gc_w i1_w (i2_w c1_w) hq
    · rw [if_neg c1_w] at hz
      obtain ⟨y_w, m', r1_w, -⟩ := l104_w n2_w hn hE h16_w gc_w i1_w hz
      cases r1_w
/-- all that stuck tells -/
theorem sr_run {G_w : Nat → Nat → Prop} {n_w E_w : Nat} {x1_w : Int32} {rd : Nat → Int32} {m_w : dc_M} {v_w : Int32 × dc_M} (n1_w : 1 ≤ n_w) (n2_w : n_w ≤ 200) (hn : (m_w.1 82 32).toInt = n_w) (hE : (m_w.1 82 3).toInt = E_w) (h16_w : E_w ≤ 16) (gc_w : GRw G_w n_w E_w m_w) (hR : ∀ i_w M q_w, i_w < n_w → (∀ b_w j_w, b_w ≠ 102 → M.1 b_w j_w = m_w.1 b_w j_w) → d_X10_readyIn 82 (Int32.ofNat i_w) M = some q_w → q_w = rd i_w) (h_w : d_X10_stuck_l32 82 x1_w 0 0 0 m_w = some v_w) : ∃ X, (∀ k_w, k_w < 32 → (b32 X k_w = true ↔ ∃ i_w, i_w < n_w ∧ b32 (rd i_w) k_w = true)) ∧ SAw G_w n_w E_w x1_w (Int32.ofNat (ctw (fun i_w => decide (rd i_w = 0)) n_w)) X v_w := by
  unfold d_X10_stuck_l32 at h_w
  refine dc_lp_inv (s := ((0 : Int32), (0 : Int32), (0 : Int32), m_w)) (fun z_w : Int32 × Int32 × Int32 × dc_M => ∃ s, s ≤ n_w ∧ z_w.1 = Int32.ofNat (ctw (fun i_w => decide (rd i_w = 0)) s) ∧ (∀ k_w, k_w < 32 → (b32 z_w.2.1 k_w = true ↔ ∃ i_w, i_w < s ∧ b32 (rd i_w) k_w = true)) ∧ z_w.2.2.1 = Int32.ofNat s ∧ (∀ b_w j_w, b_w ≠ 102 → z_w.2.2.2.1 b_w j_w = m_w.1 b_w j_w) ∧ z_w.2.2.2.2 = m_w.2 ∧ ∀ i_w, i_w < s → z_w.2.2.2.1 102 i_w = if i_w = 0 then 1 else 0) (fun v_w : Int32 × dc_M => ∃ X, (∀ k_w, k_w < 32 → (b32 X k_w = true ↔ ∃ i_w, i_w < n_w ∧ b32 (rd i_w) k_w = true)) ∧ SAw G_w n_w E_w x1_w (Int32.ofNat (ctw (fun i_w => decide (rd i_w = 0)) n_w)) X v_w) (fun z_w z' hI hz => ?_) (fun z_w v_w hI hz => ?_) ⟨0, Nat.zero_le _, rfl, fun k_w hk => by show b32 0 k_w = true ↔ _; rw [b32_0]; exact ⟨fun q_w => absurd q_w (by decide), fun ⟨i_w, hi_w, _⟩ => absurd hi_w (Nat.not_lt_zero i_w)⟩, rfl, fun _ _ _ => rfl, rfl, fun i_w hi_w => absurd hi_w (Nat.not_lt_zero i_w)⟩ h_w
  · obtain ⟨s, s1_w, s2_w, s3_w, s4_w, s5, s6_w, s7⟩ := hI
    obtain ⟨x2_w, x3, x4_w, zm⟩ := z_w
    have s2_w : x2_w = Int32.ofNat (ctw (fun i_w => decide (rd i_w = 0)) s) := s2_w
    have s3_w : ∀ k_w, k_w < 32 → (b32 x3 k_w = true ↔ ∃ i_w, i_w < s ∧ b32 (rd i_w) k_w = true) := s3_w
    have s4_w : x4_w = Int32.ofNat s := s4_w
    have s5 : ∀ b_w j_w, b_w ≠ 102 → zm.1 b_w j_w = m_w.1 b_w j_w := s5
    have s6_w : zm.2 = m_w.2 := s6_w
    have s7 : ∀ i_w, i_w < s → zm.1 102 i_w = if i_w = 0 then 1 else 0 := s7
    have hz : d_X10_stuck_l32b 82 x1_w x2_w x3 x4_w zm = some (.inl z') := hz
    unfold d_X10_stuck_l32b at hz
    have xt : x4_w.toInt = s := by rw [s4_w]; exact mk_i (by omega)
    have xn : x4_w.toNatClampNeg = s := by rw [s4_w]; exact on_n (by omega)
    have nx : x4_w + 1 = Int32.ofNat (s + 1) := by rw [s4_w]; exact on_1 (by omega)
    rw [s5 82 32 (by decide), hn, xt] at hz
    by_cases c1_w : (n_w : Int) ≤ s
    · rw [if_pos c1_w] at hz
      generalize d_X10_stuck_l93 82 x1_w x2_w x3 1 zm = o at hz
      cases o with
      | none => cases hz
      | some q_w => cases hz
    · rw [if_neg c1_w] at hz
      cases hq : d_X10_readyIn 82 x4_w zm with
      | none => rw [hq] at hz; cases hz
      | some q_w =>
        rw [hq, Option.bind_some] at hz
        have qr : q_w = rd s := hR s zm q_w (by omega) s5 (by rw [← s4_w]; exact hq)
        have cb := ctw_le (p := fun i_w => decide (rd i_w = 0)) s
        have e_w : ctw (fun i_w => decide (rd i_w = 0)) (s + 1) = ctw (fun i_w => decide (rd i_w = 0)) s + (if decide (rd s = 0) = true then 1 else 0) := rfl
        have key_w : ∀ y_w : Int32, x2_w + y_w = Int32.ofNat (ctw (fun i_w => decide (rd i_w = 0)) (s + 1)) → d_X10_stuck_b56 82 x1_w x3 x4_w y_w x2_w zm = some (.inl z') → ∃ s, s ≤ n_w ∧ z'.1 = Int32.ofNat (ctw (fun i_w => decide (rd i_w = 0)) s) ∧ (∀ k_w, k_w < 32 → (b32 z'.2.1 k_w = true ↔ ∃ i_w, i_w < s ∧ b32 (rd i_w) k_w = true)) ∧ z'.2.2.1 = Int32.ofNat s ∧ (∀ b_w j_w, b_w ≠ 102 → z'.2.2.2.1 b_w j_w = m_w.1 b_w j_w) ∧ z'.2.2.2.2 = m_w.2 ∧ ∀ i_w, i_w < s → z'.2.2.2.1 102 i_w = if i_w = 0 then 1 else 0 := fun y_w hy hz => by
          unfold d_X10_stuck_b56 at hz
          rw [hq, Option.bind_some, xt, xn, show 82 + 20 = 102 from rfl, nar_0, nar_1] at hz
          have bits_w : ∀ k_w, k_w < 32 → (b32 (x3 ||| q_w) k_w = true ↔ ∃ i_w, i_w < s + 1 ∧ b32 (rd i_w) k_w = true) := fun k_w hk => by
            rw [b32_or, Bool.or_eq_true, s3_w k_w hk, qr]
            constructor
            · rintro (⟨i_w, i1_w, i2_w⟩ | i2_w)
              · exact ⟨i_w, by omega, i2_w⟩
              · exact ⟨s, by omega, i2_w⟩
            · rintro ⟨i_w, i1_w, i2_w⟩
              by_cases ei : i_w = s
              · rw [ei] at i2_w; exact Or.inr i2_w
              · exact Or.inl ⟨i_w, by omega, i2_w⟩
          by_cases c2_w : ¬ (s : Int) = 0
          · rw [if_pos c2_w] at hz
            have hz := Sum.inl.inj (Option.some.inj hz)
            rw [← hz]
            refine ⟨s + 1, by omega, hy, bits_w, nx, fun b_w j_w hb_w => (wi_k (by omega)).trans (s5 b_w j_w hb_w), s6_w, fun i_w hi_w => ?_⟩
            show (dc_wi zm 102 s 0).1 102 i_w = _
            by_cases ei : i_w = s
            · rw [ei, wi_s, if_neg (by omega)]
            · rw [wi_k (by omega)]; exact s7 i_w (by omega)
          · rw [if_neg c2_w] at hz
            have hz := Sum.inl.inj (Option.some.inj hz)
            rw [← hz]
            refine ⟨s + 1, by omega, hy, bits_w, nx, fun b_w j_w hb_w => (wi_k (by omega)).trans (s5 b_w j_w hb_w), s6_w, fun i_w hi_w => ?_⟩
            show (dc_wi zm 102 s 1).1 102 i_w = _
            by_cases ei : i_w = s
            · rw [ei, wi_s, if_pos (by omega)]
            · omega
        by_cases c2_w : q_w.toInt = 0
        · rw [if_neg (fun r_w => r_w c2_w)] at hz
          refine key_w 1 ?_ hz
          rw [e_w, ← qr, show q_w = 0 from Int32.toInt_inj.mp c2_w, decide_eq_true (show (0 : Int32) = 0 from rfl), if_pos (show true = true from rfl), s2_w]
          exact on_1 (by omega)
        · rw [if_pos c2_w] at hz
          refine key_w 0 ?_ hz
          rw [e_w, ← qr, decide_eq_false (show ¬ q_w = 0 from fun r_w => c2_w (by rw [r_w]; rfl)), if_neg (show ¬ false = true by decide), s2_w, Int32.add_zero, Nat.add_zero]
  · obtain ⟨s, s1_w, s2_w, s3_w, s4_w, s5, s6_w, s7⟩ := hI
    obtain ⟨x2_w, x3, x4_w, zm⟩ := z_w
    have s2_w : x2_w = Int32.ofNat (ctw (fun i_w => decide (rd i_w = 0)) s) := s2_w
    have s3_w : ∀ k_w, k_w < 32 → (b32 x3 k_w = true ↔ ∃ i_w, i_w < s ∧ b32 (rd i_w) k_w = true) := s3_w
    have s4_w : x4_w = Int32.ofNat s := s4_w
    have s5 : ∀ b_w j_w, b_w ≠ 102 → zm.1 b_w j_w = m_w.1 b_w j_w := s5
    have s6_w : zm.2 = m_w.2 := s6_w
    have s7 : ∀ i_w, i_w < s → zm.1 102 i_w = if i_w = 0 then 1 else 0 := s7
    have hz : d_X10_stuck_l32b 82 x1_w x2_w x3 x4_w zm = some (.inr v_w) := hz
    unfold d_X10_stuck_l32b at hz
    have xt : x4_w.toInt = s := by rw [s4_w]; exact mk_i (by omega)
    rw [s5 82 32 (by decide), hn, xt] at hz
    by_cases c1_w : (n_w : Int) ≤ s
    · rw [if_pos c1_w] at hz
      have sn : s = n_w := by omega
      rw [sn] at s2_w s3_w s7
      cases hq : d_X10_stuck_l93 82 x1_w x2_w x3 1 zm with
      | none => rw [hq] at hz; cases hz
      | some q_w =>
        rw [hq] at hz
        have hz := Sum.inr.inj (Option.some.inj hz)
        rw [← hz]
        refine ⟨x3, s3_w, ?_⟩
        rw [← s2_w]
        refine l93_w n2_w hn hE h16_w gc_w ⟨s5, s6_w, by rw [s7 0 (by omega)]; rfl, fun i_w hi_w => ?_⟩ hq
        by_cases ei : i_w = 0
        · rw [ei]
          exact ⟨Or.inr (by rw [s7 0 (by omega)]; rfl), fun _ => RHg.zw⟩
        · rw [s7 i_w hi_w, if_neg ei]
          exact ⟨Or.inl rfl, fun q_w => absurd q_w i01⟩
    · rw [if_neg c1_w] at hz
      cases hq : d_X10_readyIn 82 x4_w zm with
      | none => rw [hq] at hz; cases hz
      | some q_w =>
        rw [hq, Option.bind_some] at hz
        unfold d_X10_stuck_b56 at hz
        rw [hq, Option.bind_some, Option.bind_some] at hz
        split at hz
        · split at hz
          · cases hz
          · cases hz
        · split at hz
          · cases hz
          · cases hz
