/-! ===== the class finds the beat ===== -/
def FBm (m0_w m_w : dc_M) : Prop := ∀ y_w k_w, ¬ (y_w = 30 ∧ (k_w = 1 ∨ k_w = 2 ∨ k_w = 3)) → m_w.1 y_w k_w = m0_w.1 y_w k_w
def clx (m_w : dc_M) (f_w k_w : Nat) : Int := (m_w.1 36 (17 * f_w + k_w)).toInt
theorem fb_st {E_w e_w t_w : Nat} {m_w zm : dc_M} {x1_w : Int32} {S_w S' : Nat → Nat → Prop} {r_w : (Int32 × dc_M) ⊕ ((Int32 × dc_M) ⊕ dc_M)} (hx : x1_w.toInt = E_w) (E16 : E_w ≤ 16) (he : e_w < E_w) (ht : 1 ≤ t_w ∧ t_w ≤ E_w) (hc_w : -1 ≤ clx m_w e_w t_w ∧ clx m_w e_w t_w ≤ 6000) (hS_w : ∀ f_w k_w, S' f_w k_w ↔ S_w f_w k_w ∨ (f_w = e_w ∧ k_w = t_w)) (hk : ∀ f_w k_w, S_w f_w k_w → 1 ≤ k_w) (F_w : FBm m_w zm) (B : BTi S_w (clx m_w) (zm.1 30 1).toInt (zm.1 30 2).toInt (zm.1 30 3)) (h_w : d_X5_findBeat_l9b 30 x1_w (Int32.ofNat e_w) (Int32.ofNat t_w) zm = some r_w) : ∃ zm', r_w = .inl (Int32.ofNat (t_w + 1), zm') ∧ FBm m_w zm' ∧ BTi S' (clx m_w) (zm'.1 30 1).toInt (zm'.1 30 2).toInt (zm'.1 30 3) := by
  have t1_w : Int32.ofNat t_w + 1 = Int32.ofNat (t_w + 1) := on_1 (by omega)
  have tt : (Int32.ofNat t_w).toInt = t_w := mk_i (by omega)
  have ix : (Int32.ofNat e_w * 17 + Int32.ofNat t_w).toNatClampNeg = 17 * e_w + t_w := by
    have a1_w : (Int32.ofNat e_w * 17).toInt = 17 * (e_w : Int) := by rw [Int32.toInt_mul, mk_i (by omega), show (17 : Int32).toInt = 17 from rfl, sx_bm (by omega) (by omega)]; omega
    have a2 : (Int32.ofNat e_w * 17 + Int32.ofNat t_w).toInt = 17 * (e_w : Int) + t_w := by rw [Int32.toInt_add, a1_w, mk_i (by omega), sx_bm (by omega) (by omega)]
    show (Int32.ofNat e_w * 17 + Int32.ofNat t_w).toInt.toNat = _
    rw [a2]
    omega
  unfold d_X5_findBeat_l9b at h_w
  rw [hx, tt, if_neg (show ¬ (E_w : Int) < t_w by omega), show 30 + 6 = 36 from rfl, ix, F_w 36 _ (by omega), t1_w] at h_w
  have cle : (m_w.1 36 (17 * e_w + t_w)).toInt = clx m_w e_w t_w := rfl
  have nd_w : (0 ≤ (zm.1 30 2).toInt ∧ (zm.1 30 2).toInt ≤ 16) ∧ 0 ≤ (zm.1 30 1).toInt ∧ (zm.1 30 1).toInt ≤ 6000 := by
    rcases B with ⟨b1, b2, -⟩ | ⟨b1, b2, -⟩ <;> omega
  by_cases c0_w : clx m_w e_w t_w = -1
  · rw [if_neg (fun q_w => q_w (cle.trans c0_w))] at h_w
    exact ⟨zm, (Option.some.inj h_w).symm, F_w, B.s0 hS_w (Or.inl c0_w)⟩
  · rw [if_pos (fun q_w => c0_w (cle.symm.trans q_w))] at h_w
    have p1_w : 0 ≤ clx m_w e_w t_w * (zm.1 30 2).toInt ∧ clx m_w e_w t_w * (zm.1 30 2).toInt ≤ 96000 := ⟨Int.mul_nonneg (by omega) nd_w.1.1, Int.le_trans (Int.mul_le_mul hc_w.2 nd_w.1.2 nd_w.1.1 (by decide)) (by decide)⟩
    have p2_w : 0 ≤ (zm.1 30 1).toInt * (t_w : Int) ∧ (zm.1 30 1).toInt * (t_w : Int) ≤ 96000 := ⟨Int.mul_nonneg nd_w.2.1 (by omega), Int.le_trans (Int.mul_le_mul nd_w.2.2 (show (t_w : Int) ≤ 16 by omega) (by omega) (by decide)) (by decide)⟩
    have more_w : (m_w.1 36 (17 * e_w + t_w) * zm.1 30 2 - zm.1 30 1 * Int32.ofNat t_w).toInt = clx m_w e_w t_w * (zm.1 30 2).toInt - (zm.1 30 1).toInt * t_w := by
      have m1_w : (m_w.1 36 (17 * e_w + t_w) * zm.1 30 2).toInt = clx m_w e_w t_w * (zm.1 30 2).toInt := by rw [Int32.toInt_mul, cle, sx_bm (by omega) (by omega)]
      have m2_w : (zm.1 30 1 * Int32.ofNat t_w).toInt = (zm.1 30 1).toInt * t_w := by rw [Int32.toInt_mul, tt, sx_bm (by omega) (by omega)]
      rw [Int32.toInt_sub, m1_w, m2_w, sx_bm (by omega) (by omega)]
    have et : (Int32.ofNat e_w).toInt = e_w := mk_i (by omega)
    have en : (Int32.ofNat e_w).toNatClampNeg = e_w := on_n (by omega)
    have bit_w : ∀ (x_w : Int32) (b_w : Nat), b_w < 32 → b32 (x_w ||| ((1 : Int32) <<< (Int32.ofNat e_w &&& 31))) b_w = (b32 x_w b_w || decide (b_w = e_w)) := fun x_w b_w hb_w => by rw [b32_or, b32_1 ⟨by omega, by omega⟩ hb_w, en]
    -- a better one
    have best_w : ∀ x5_w : Int32, ¬ x5_w.toInt < 0 → ((zm.1 30 2).toInt = 0 ∨ (1 ≤ (zm.1 30 2).toInt ∧ (zm.1 30 1).toInt * (t_w : Int) < clx m_w e_w t_w * (zm.1 30 2).toInt)) → d_X5_findBeat_b80 30 x1_w (Int32.ofNat e_w) (Int32.ofNat t_w) x5_w (dc_wi (dc_wi (dc_wi zm 30 1 (m_w.1 36 (17 * e_w + t_w))) 30 2 (Int32.ofNat t_w)) 30 3 0) = some r_w → ∃ zm', r_w = .inl (Int32.ofNat (t_w + 1), zm') ∧ FBm m_w zm' ∧ BTi S' (clx m_w) (zm'.1 30 1).toInt (zm'.1 30 2).toInt (zm'.1 30 3) := fun x5_w h5 hb_w hz => by
      unfold d_X5_findBeat_b80 at hz
      rw [if_neg h5, wi_s, t1_w] at hz
      refine ⟨_, (Option.some.inj hz).symm, fun y_w k_w n_w => ?_, ?_⟩
      · rw [wi_k (by omega), wi_k (by omega), wi_k (by omega), wi_k (by omega)]
        exact F_w y_w k_w n_w
      · rw [wi_s, wi_k (show ¬ (30 = 30 ∧ 1 = 3) by omega), wi_k (show ¬ (30 = 30 ∧ 1 = 3) by omega), wi_k (show ¬ (30 = 30 ∧ 1 = 2) by omega), wi_s, wi_k (show ¬ (30 = 30 ∧ 2 = 3) by omega), wi_k (show ¬ (30 = 30 ∧ 2 = 3) by omega), wi_s, tt]
        exact B.s4 hS_w hk (by omega) ⟨ht.1, by omega⟩ ⟨by omega, hc_w.2⟩ hb_w (fun b_w hb_w => by rw [bit_w 0 b_w hb_w, b32_0, Bool.false_or])
    by_cases c1_w : (zm.1 30 2).toInt = 0
    · rw [if_pos c1_w] at h_w
      refine best_w _ ?_ (Or.inl c1_w) h_w
      rw [more_w, c1_w]
      have n0_w : (zm.1 30 1).toInt = 0 := by
        rcases B with ⟨b1, -⟩ | ⟨b1, -⟩
        · exact b1
        · omega
      rw [n0_w, Int.mul_zero, Int.zero_mul]
      decide
    · rw [if_neg c1_w] at h_w
      by_cases c2_w : (m_w.1 36 (17 * e_w + t_w) * zm.1 30 2 - zm.1 30 1 * Int32.ofNat t_w).toInt ≤ 0
      · rw [if_pos c2_w] at h_w
        unfold d_X5_findBeat_b80 at h_w
        rw [more_w] at c2_w
        by_cases c3_w : (m_w.1 36 (17 * e_w + t_w) * zm.1 30 2 - zm.1 30 1 * Int32.ofNat t_w).toInt < 0
        · rw [if_pos c3_w, t1_w] at h_w
          rw [more_w] at c3_w
          exact ⟨zm, (Option.some.inj h_w).symm, F_w, B.s0 hS_w (Or.inr ⟨by omega, by omega⟩)⟩
        · rw [if_neg c3_w, t1_w] at h_w
          rw [more_w] at c3_w
          refine ⟨_, (Option.some.inj h_w).symm, fun y_w k_w n_w => ?_, ?_⟩
          · rw [wi_k (by omega)]
            exact F_w y_w k_w n_w
          · rw [wi_s, wi_k (show ¬ (30 = 30 ∧ 1 = 3) by omega), wi_k (show ¬ (30 = 30 ∧ 2 = 3) by omega)]
            exact B.s3 hS_w (by omega) c0_w (by omega) (by omega) (fun b_w hb_w => bit_w _ b_w hb_w)
      · rw [if_neg c2_w] at h_w
        rw [more_w] at c2_w
        refine best_w _ ?_ (Or.inr ⟨by omega, by omega⟩) h_w
        rw [more_w]
        omega
theorem fb_w {E_w : Nat} {m_w e_w : dc_M} {x1_w : Int32} (hx : x1_w.toInt = E_w) (E16 : E_w ≤ 16) (hc_w : ∀ f_w k_w, f_w < E_w → 1 ≤ k_w → k_w ≤ E_w → -1 ≤ clx m_w f_w k_w ∧ clx m_w f_w k_w ≤ 6000) (z1 : m_w.1 30 1 = 0) (z2 : m_w.1 30 2 = 0) (z3 : m_w.1 30 3 = 0) (h_w : d_X5_findBeat 30 x1_w m_w = some e_w) : ∃ zm, FBm m_w zm ∧ BTi (fun f_w k_w => f_w < E_w ∧ 1 ≤ k_w ∧ k_w ≤ E_w) (clx m_w) (zm.1 30 1).toInt (zm.1 30 2).toInt (zm.1 30 3) ∧ d_X5_reduce 30 zm = some e_w := by
  have inner_w : ∀ (i_w : Nat) (zm : dc_M) (u_w : (Int32 × dc_M) ⊕ dc_M), i_w < E_w → FBm m_w zm → BTi (fun f_w k_w => f_w < i_w ∧ 1 ≤ k_w ∧ k_w ≤ E_w) (clx m_w) (zm.1 30 1).toInt (zm.1 30 2).toInt (zm.1 30 3) → d_X5_findBeat_l9 30 x1_w (Int32.ofNat i_w) 1 zm = some u_w → ∃ zm', u_w = .inl (Int32.ofNat (i_w + 1), zm') ∧ FBm m_w zm' ∧ BTi (fun f_w k_w => f_w < i_w + 1 ∧ 1 ≤ k_w ∧ k_w ≤ E_w) (clx m_w) (zm'.1 30 1).toInt (zm'.1 30 2).toInt (zm'.1 30 3) := fun i_w zm u_w hi_w F_w B hu => by
    unfold d_X5_findBeat_l9 at hu
    have same_w : ∀ S_w S' : Nat → Nat → Prop, (∀ f_w k_w, S_w f_w k_w ↔ S' f_w k_w) → S_w = S' := fun S_w S' hs => funext (fun f_w => funext (fun k_w => propext (hs f_w k_w)))
    refine dc_lp_inv (s := ((1 : Int32), zm)) (fun s : Int32 × dc_M => ∃ t_w : Nat, 1 ≤ t_w ∧ t_w ≤ E_w + 1 ∧ s.1 = Int32.ofNat t_w ∧ FBm m_w s.2 ∧ BTi (fun f_w k_w => (f_w < i_w ∧ 1 ≤ k_w ∧ k_w ≤ E_w) ∨ (f_w = i_w ∧ 1 ≤ k_w ∧ k_w < t_w)) (clx m_w) (s.2.1 30 1).toInt (s.2.1 30 2).toInt (s.2.1 30 3)) (fun u_w : (Int32 × dc_M) ⊕ dc_M => ∃ zm', u_w = .inl (Int32.ofNat (i_w + 1), zm') ∧ FBm m_w zm' ∧ BTi (fun f_w k_w => f_w < i_w + 1 ∧ 1 ≤ k_w ∧ k_w ≤ E_w) (clx m_w) (zm'.1 30 1).toInt (zm'.1 30 2).toInt (zm'.1 30 3)) (fun s s' hI hs => ?_) (fun s u_w hI hs => ?_) ⟨1, Nat.le_refl _, by omega, rfl, F_w, ?_⟩ hu
    · obtain ⟨t_w, i1_w, i2_w, i3_w, i4_w, i5_w⟩ := hI
      obtain ⟨y_w, ym⟩ := s
      have i3_w : y_w = Int32.ofNat t_w := i3_w
      have hs : d_X5_findBeat_l9b 30 x1_w (Int32.ofNat i_w) y_w ym = some (.inl s') := hs
      rw [i3_w] at hs
      by_cases c_w : t_w ≤ E_w
      · obtain ⟨zm', r1_w, r2, r3⟩ := fb_st (S' := fun f_w k_w => (f_w < i_w ∧ 1 ≤ k_w ∧ k_w ≤ E_w) ∨ (f_w = i_w ∧ 1 ≤ k_w ∧ k_w < t_w + 1)) hx E16 hi_w ⟨i1_w, c_w⟩ (hc_w i_w t_w hi_w i1_w c_w) (fun f_w k_w => by omega) (fun f_w k_w s => by omega) i4_w i5_w hs
        have r1_w := Sum.inl.inj r1_w
        rw [r1_w]
        exact ⟨t_w + 1, by omega, by omega, rfl, r2, r3⟩
      · unfold d_X5_findBeat_l9b at hs
        rw [hx, mk_i (by omega), if_pos (show (E_w : Int) < t_w by omega)] at hs
        cases hs
    · obtain ⟨t_w, i1_w, i2_w, i3_w, i4_w, i5_w⟩ := hI
      obtain ⟨y_w, ym⟩ := s
      have i3_w : y_w = Int32.ofNat t_w := i3_w
      have i5_w : BTi (fun f_w k_w => (f_w < i_w ∧ 1 ≤ k_w ∧ k_w ≤ E_w) ∨ (f_w = i_w ∧ 1 ≤ k_w ∧ k_w < t_w)) (clx m_w) (ym.1 30 1).toInt (ym.1 30 2).toInt (ym.1 30 3) := i5_w
      have hs : d_X5_findBeat_l9b 30 x1_w (Int32.ofNat i_w) y_w ym = some (.inr u_w) := hs
      rw [i3_w] at hs
      by_cases c_w : t_w ≤ E_w
      · obtain ⟨zm', r1_w, -⟩ := fb_st (S' := fun f_w k_w => (f_w < i_w ∧ 1 ≤ k_w ∧ k_w ≤ E_w) ∨ (f_w = i_w ∧ 1 ≤ k_w ∧ k_w < t_w + 1)) hx E16 hi_w ⟨i1_w, c_w⟩ (hc_w i_w t_w hi_w i1_w c_w) (fun f_w k_w => by omega) (fun f_w k_w s => by omega) i4_w i5_w hs
        cases r1_w
      · unfold d_X5_findBeat_l9b at hs
        rw [hx, mk_i (by omega), if_pos (show (E_w : Int) < t_w by omega), on_1 (by omega)] at hs
        refine ⟨ym, (Sum.inr.inj (Option.some.inj hs)).symm, i4_w, ?_⟩
        rw [same_w (fun f_w k_w => f_w < i_w + 1 ∧ 1 ≤ k_w ∧ k_w ≤ E_w) (fun f_w k_w => (f_w < i_w ∧ 1 ≤ k_w ∧ k_w ≤ E_w) ∨ (f_w = i_w ∧ 1 ≤ k_w ∧ k_w < t_w)) (fun f_w k_w => by omega)]
        exact i5_w
    · rw [same_w (fun f_w k_w => (f_w < i_w ∧ 1 ≤ k_w ∧ k_w ≤ E_w) ∨ (f_w = i_w ∧ 1 ≤ k_w ∧ k_w < 1)) (fun f_w k_w => f_w < i_w ∧ 1 ≤ k_w ∧ k_w ≤ E_w) (fun f_w k_w => by omega)]
      exact B
  unfold d_X5_findBeat d_X5_findBeat_l2 at h_w
  refine dc_lp_inv (s := ((0 : Int32), m_w)) (fun s : Int32 × dc_M => ∃ i_w : Nat, i_w ≤ E_w ∧ s.1 = Int32.ofNat i_w ∧ FBm m_w s.2 ∧ BTi (fun f_w k_w => f_w < i_w ∧ 1 ≤ k_w ∧ k_w ≤ E_w) (clx m_w) (s.2.1 30 1).toInt (s.2.1 30 2).toInt (s.2.1 30 3)) (fun e_w : dc_M => ∃ zm, FBm m_w zm ∧ BTi (fun f_w k_w => f_w < E_w ∧ 1 ≤ k_w ∧ k_w ≤ E_w) (clx m_w) (zm.1 30 1).toInt (zm.1 30 2).toInt (zm.1 30 3) ∧ d_X5_reduce 30 zm = some e_w) (fun s s' hI hs => ?_) (fun s e_w hI hs => ?_) ⟨0, Nat.zero_le _, rfl, fun _ _ _ => rfl, Or.inl ⟨by show (m_w.1 30 1).toInt = 0; rw [z1]; rfl, by show (m_w.1 30 2).toInt = 0; rw [z2]; rfl, fun b_w _ => by show b32 (m_w.1 30 3) b_w = false; rw [z3, b32_0], fun f_w k_w s => absurd s.1 (Nat.not_lt_zero f_w)⟩⟩ h_w
  · obtain ⟨i_w, i1_w, i2_w, i3_w, i4_w⟩ := hI
    obtain ⟨y_w, zm⟩ := s
    have i2_w : y_w = Int32.ofNat i_w := i2_w
    have hs : d_X5_findBeat_l2b 30 x1_w y_w zm = some (.inl s') := hs
    unfold d_X5_findBeat_l2b at hs
    rw [i2_w, hx, mk_i (by omega)] at hs
    by_cases c_w : (E_w : Int) ≤ i_w
    · rw [if_pos c_w] at hs
      generalize d_X5_findBeat_b109 30 zm = o at hs
      cases o with
      | none => cases hs
      | some o => cases hs
    · rw [if_neg c_w] at hs
      obtain ⟨zm', r1_w, r2, r3⟩ := inner_w i_w zm _ (by omega) i3_w i4_w hs
      have r1_w := Sum.inl.inj r1_w
      rw [r1_w]
      exact ⟨i_w + 1, by omega, rfl, r2, r3⟩
  · obtain ⟨i_w, i1_w, i2_w, i3_w, i4_w⟩ := hI
    obtain ⟨y_w, zm⟩ := s
    have i2_w : y_w = Int32.ofNat i_w := i2_w
    have i4_w : BTi (fun f_w k_w => f_w < i_w ∧ 1 ≤ k_w ∧ k_w ≤ E_w) (clx m_w) (zm.1 30 1).toInt (zm.1 30 2).toInt (zm.1 30 3) := i4_w
    have hs : d_X5_findBeat_l2b 30 x1_w y_w zm = some (.inr e_w) := hs
    unfold d_X5_findBeat_l2b at hs
    rw [i2_w, hx, mk_i (by omega)] at hs
    by_cases c_w : (E_w : Int) ≤ i_w
    · rw [if_pos c_w] at hs
      have ie : i_w = E_w := by omega
      rw [ie] at i4_w
      unfold d_X5_findBeat_b109 at hs
      cases hq : d_X5_reduce 30 zm with
      | none => rw [hq] at hs; cases hs
      | some q_w =>
        rw [hq] at hs
        have hs : q_w = e_w := Sum.inr.inj (Option.some.inj hs)
        exact ⟨zm, i3_w, i4_w, by rw [hq, hs]⟩
    · rw [if_neg c_w] at hs
      obtain ⟨zm', r1_w, -⟩ := inner_w i_w zm _ (by omega) i3_w i4_w hs
      cases r1_w
