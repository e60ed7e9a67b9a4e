/-! ===== cost: the reference's cubes, and the least of them ===== -/
/-- letters of a_w cube -/
def LTw (W c_w : Nat) : Nat := cnw (fun i_w => decide (dg c_w i_w ≠ 2)) W
theorem LTw.le {W c_w : Nat} : LTw W c_w ≤ W := cnw.le W
theorem cnw.sc {f : Nat → Bool} {i_w : Nat} : cnw f (i_w + 1) = cnw f i_w + if f i_w = true then 1 else 0 := rfl
theorem ltr_w {W c_w : Nat} {m_w : dc_M} {G_w : Int32} (h0 : m_w.1 82 0 = Int32.ofNat W) (hW : W ≤ 6) (hc_w : c_w < 1000) (h_w : d_X10_lettersOf 82 (Int32.ofNat c_w) m_w = some G_w) : G_w = Int32.ofNat (LTw W c_w) := by
  unfold d_X10_lettersOf d_X10_lettersOf_l7 at h_w
  have sm_w : ∀ i_w, i_w ≤ W → cnw (fun i_w => decide (dg c_w i_w ≠ 2)) i_w ≤ 6 := fun i_w hi_w => by have := cnw.le (f := fun i_w => decide (dg c_w i_w ≠ 2)) i_w; omega
  refine dc_lp_inv (s := ((0 : Int32), Int32.ofNat c_w, (0 : Int32))) (fun s : Int32 × Int32 × Int32 => ∃ i_w : Nat, i_w ≤ W ∧ s.1 = Int32.ofNat (cnw (fun i_w => decide (dg c_w i_w ≠ 2)) i_w) ∧ s.2.1 = Int32.ofNat (c_w / 3 ^ i_w) ∧ s.2.2 = Int32.ofNat i_w) (fun G_w => G_w = Int32.ofNat (LTw W c_w)) (fun s s' hI hs => ?_) (fun s u_w hI hs => ?_) ⟨0, Nat.zero_le _, rfl, by rw [Nat.pow_zero, Nat.div_one], rfl⟩ h_w
  · obtain ⟨i_w, i1_w, i2_w, i3_w, i4⟩ := hI
    obtain ⟨x_w, y_w, z_w⟩ := s
    have i2_w : x_w = Int32.ofNat (cnw (fun i_w => decide (dg c_w i_w ≠ 2)) i_w) := i2_w
    have i3_w : y_w = Int32.ofNat (c_w / 3 ^ i_w) := i3_w
    have i4 : z_w = Int32.ofNat i_w := i4
    have hs : d_X10_lettersOf_l7b 82 x_w y_w z_w m_w = some (.inl s') := hs
    unfold d_X10_lettersOf_l7b at hs
    rw [h0, i2_w, i3_w, i4, mk_i (by omega), mk_i (by omega), md3_w hc_w, dv3_w hc_w, on_1 (show i_w < 1000 by omega)] at hs
    by_cases c1_w : (W : Int) ≤ i_w
    · rw [if_pos c1_w] at hs; cases hs
    · have d3_w := dg3_w c_w i_w
      have si := sm_w i_w i1_w
      rw [if_neg c1_w, mk_i (by omega)] at hs
      by_cases c2_w : dg c_w i_w = 2
      · rw [if_pos (show (2 : Int) ≤ (dg c_w i_w : Int) by rw [c2_w]; decide)] at hs
        have hs := Sum.inl.inj (Option.some.inj hs)
        rw [← hs]
        refine ⟨i_w + 1, by omega, ?_, rfl, rfl⟩
        rw [cnw.sc, if_neg (show ¬ decide (dg c_w i_w ≠ 2) = true by rw [c2_w]; decide)]
        exact Int32.add_zero _
      · rw [if_neg (show ¬ (2 : Int) ≤ (dg c_w i_w : Int) by omega)] at hs
        have hs := Sum.inl.inj (Option.some.inj hs)
        rw [← hs]
        refine ⟨i_w + 1, by omega, ?_, rfl, rfl⟩
        rw [cnw.sc, if_pos (show decide (dg c_w i_w ≠ 2) = true from decide_eq_true c2_w)]
        exact on_1 (by omega)
  · obtain ⟨i_w, i1_w, i2_w, i3_w, i4⟩ := hI
    obtain ⟨x_w, y_w, z_w⟩ := s
    have i2_w : x_w = Int32.ofNat (cnw (fun i_w => decide (dg c_w i_w ≠ 2)) i_w) := i2_w
    have i4 : z_w = Int32.ofNat i_w := i4
    have hs : d_X10_lettersOf_l7b 82 x_w y_w z_w m_w = some (.inr u_w) := hs
    unfold d_X10_lettersOf_l7b at hs
    rw [h0, i4, mk_i (by omega), mk_i (by omega)] at hs
    by_cases c1_w : (W : Int) ≤ i_w
    · rw [if_pos c1_w] at hs
      have hs : x_w = u_w := Sum.inr.inj (Option.some.inj hs)
      rw [← hs, i2_w, show i_w = W by omega]
      rfl
    · rw [if_neg c1_w] at hs
      split at hs <;> cases hs
/-- how many primes stand ahead of a_w cube -/
noncomputable def PNw (on off : Int64) (W : Nat) : Nat → Nat
  | 0 => 0
  | c_w + 1 => @ite _ (lc_prime on off W c_w) (Classical.propDecidable _) (PNw on off W c_w + 1) (PNw on off W c_w)
section PNw
variable {on off : Int64} {W : Nat}
theorem PNw.y {c_w : Nat} (h_w : lc_prime on off W c_w) : PNw on off W (c_w + 1) = PNw on off W c_w + 1 := if_pos h_w
theorem PNw.n {c_w : Nat} (h_w : ¬ lc_prime on off W c_w) : PNw on off W (c_w + 1) = PNw on off W c_w := if_neg h_w
theorem PNw.s (c_w : Nat) : PNw on off W c_w ≤ PNw on off W (c_w + 1) ∧ PNw on off W (c_w + 1) ≤ PNw on off W c_w + 1 := by
  by_cases h_w : lc_prime on off W c_w
  · rw [PNw.y h_w]; omega
  · rw [PNw.n h_w]; omega
theorem PNw.le : ∀ c_w, PNw on off W c_w ≤ c_w
  | 0 => Nat.le_refl _
  | c_w + 1 => by have := PNw.le c_w; have := (PNw.s (on := on) (off := off) (W := W) c_w).2; omega
theorem PNw.mn {c_w d_w : Nat} (h_w : c_w ≤ d_w) : PNw on off W c_w ≤ PNw on off W d_w := by
  induction d_w with
  | zero => rw [show c_w = 0 by omega]; exact Nat.le_refl _
  | succ d_w ih =>
    by_cases e_w : c_w = d_w + 1
    · rw [e_w]; exact Nat.le_refl _
    · exact Nat.le_trans (ih (by omega)) (PNw.s d_w).1
theorem PNw.lt {c_w d_w : Nat} (h_w : c_w < d_w) (p_w : lc_prime on off W c_w) : PNw on off W c_w < PNw on off W d_w := by
  have := PNw.mn (on := on) (off := off) (W := W) (show c_w + 1 ≤ d_w from h_w)
  rw [PNw.y p_w] at this
  omega
theorem PNw.sj {k_w : Nat} : ∀ {c_w : Nat}, k_w < PNw on off W c_w → ∃ c', c' < c_w ∧ lc_prime on off W c' ∧ PNw on off W c' = k_w
  | 0, h_w => absurd h_w (Nat.not_lt_zero k_w)
  | c_w + 1, h_w => by
    by_cases z_w : k_w < PNw on off W c_w
    · obtain ⟨c', h1, h2⟩ := PNw.sj z_w
      exact ⟨c', by omega, h2⟩
    · by_cases p_w : lc_prime on off W c_w
      · rw [PNw.y p_w] at h_w
        exact ⟨c_w, by omega, p_w, by omega⟩
      · rw [PNw.n p_w] at h_w
        omega
end PNw
/-- the reference's cubes so far -/
def LCw (on off : Int64) (W c_w : Nat) (m0_w z_w : dc_M) : Prop := ((∀ b_w, b_w ≠ 82 → b_w ≠ 103 → b_w ≠ 105 → z_w.1 b_w = m0_w.1 b_w) ∧ (∀ k_w, k_w ≠ 49 → z_w.1 82 k_w = m0_w.1 82 k_w) ∧ (∀ b_w, b_w ≠ 104 → z_w.2.1 b_w = m0_w.2.1 b_w) ∧ z_w.2.2 = m0_w.2.2) ∧ z_w.1 82 49 = Int32.ofNat (PNw on off W c_w) ∧ ∀ c', c' < c_w → lc_prime on off W c' → z_w.1 105 (PNw on off W c') = Int32.ofNat (LTw W c') ∧ ∃ X_w, lv_X W c' (2 ^ W) X_w ∧ z_w.2.1 104 (PNw on off W c') = X_w &&& on
theorem lcb_w {W c_w : Nat} {m0_w z_w : dc_M} {X_w : Int64} {F_w : Int32} {r_w : (Int32 × dc_M) ⊕ dc_M} (h0 : m0_w.1 82 0 = Int32.ofNat W) (hW : W ≤ 6) (hc_w : c_w < 3 ^ W) (hX : lv_X W c_w (2 ^ W) X_w) (L_w : LCw (m0_w.2.1 82 47) (m0_w.2.1 82 48) W c_w m0_w z_w) (hF : (F_w = 1 ∧ lc_prime (m0_w.2.1 82 47) (m0_w.2.1 82 48) W c_w) ∨ (F_w = 0 ∧ ¬ lc_prime (m0_w.2.1 82 47) (m0_w.2.1 82 48) W c_w)) (h_w : d_X10_layCubes_b126 82 (Int32.ofNat c_w) X_w F_w z_w = some r_w) : ∃ y_w, r_w = .inl (Int32.ofNat (c_w + 1), y_w) ∧ LCw (m0_w.2.1 82 47) (m0_w.2.1 82 48) W (c_w + 1) m0_w y_w := by
  have h3 := lc_p3 hW
  have c1_w : Int32.ofNat c_w + 1 = Int32.ofNat (c_w + 1) := on_1 (by omega)
  obtain ⟨⟨l1, l2, l3, l4⟩, l5, l6⟩ := L_w
  unfold d_X10_layCubes_b126 at h_w
  rw [c1_w] at h_w
  rcases hF with ⟨f1_w, f2_w⟩ | ⟨f1_w, f2_w⟩
  · obtain ⟨n_w, hn⟩ : ∃ n_w, PNw (m0_w.2.1 82 47) (m0_w.2.1 82 48) W c_w = n_w := ⟨_, rfl⟩
    have nl : n_w ≤ c_w := by rw [← hn]; exact PNw.le c_w
    rw [hn] at l5
    rw [f1_w, if_neg (show ¬ (1 : Int32).toInt = 0 by decide)] at h_w
    obtain ⟨g_w, hg, h_w⟩ := Option.bind_eq_some_iff.mp h_w
    have e1_w : ∀ k_w v, (dc_wi z_w (82 + 21) k_w v).1 82 49 = Int32.ofNat n_w := fun k_w v => (wi_k (by omega)).trans l5
    have e2_w : ∀ (M_w : dc_M) k_w v, (dc_wi M_w (82 + 23) k_w v).1 82 49 = M_w.1 82 49 := fun M_w k_w v => wi_k (by omega)
    have e3_w : (Int32.ofNat n_w).toNatClampNeg = n_w := on_n (by omega)
    have e4_w : ∀ (M_w : dc_M) a_w k_w v, (dc_wl M_w a_w k_w v).1 = M_w.1 := fun _ _ _ _ => rfl
    have e5_w : ∀ (M_w : dc_M) a_w k_w v, (dc_wi M_w a_w k_w v).2 = M_w.2 := fun _ _ _ _ => rfl
    simp only [e4_w, e2_w, e1_w, l5, e3_w, e5_w] at h_w hg
    have g0 := ltr_w (by show (dc_wi z_w (82 + 21) n_w (Int32.ofNat c_w)).1 82 0 = _; rw [wi_k (by omega), l2 0 (by decide)]; exact h0) hW (show c_w < 1000 by omega) hg
    obtain ⟨Y, hY⟩ : ∃ Y, dc_wi (dc_wi (dc_wl (dc_wi z_w 103 n_w (Int32.ofNat c_w)) 104 n_w (X_w &&& z_w.2.1 82 47)) 105 n_w g_w) 82 49 (Int32.ofNat n_w + 1) = Y := ⟨_, rfl⟩
    have h_w : some (Sum.inl (Int32.ofNat (c_w + 1), Y)) = some r_w := by rw [← hY]; exact h_w
    refine ⟨Y, (Option.some.inj h_w).symm, ⟨fun b_w b1 b2 b3 => ?_, fun k_w hk => ?_, fun b_w hb_w => ?_, ?_⟩, ?_, fun c' hc' p_w => ?_⟩
    · rw [← hY]
      refine funext (fun k_w => ?_)
      rw [wi_k (by omega), wi_k (by omega)]
      show (dc_wi z_w 103 n_w (Int32.ofNat c_w)).1 b_w k_w = _
      rw [wi_k (by omega), l1 b_w b1 b2 b3]
    · rw [← hY, wi_k (by omega), wi_k (by omega)]
      show (dc_wi z_w 103 n_w (Int32.ofNat c_w)).1 82 k_w = _
      rw [wi_k (by omega), l2 k_w hk]
    · rw [← hY]
      exact (funext (fun k_w => wlw_k (by omega))).trans (l3 b_w hb_w)
    · rw [← hY]
      exact l4
    · rw [← hY, wi_s, PNw.y f2_w, hn]
      exact on_1 (by omega)
    · by_cases e_w : c' = c_w
      · rw [e_w, hn]
        refine ⟨?_, X_w, hX, ?_⟩
        · rw [← hY, wi_k (by omega), wi_s]
          exact g0
        · rw [← hY]
          show (dc_wl (dc_wi z_w 103 n_w (Int32.ofNat c_w)) 104 n_w (X_w &&& z_w.2.1 82 47)).2.1 104 n_w = _
          rw [wlw_s, l3 82 (by decide)]
      · have lt_w := PNw.lt (show c' < c_w by omega) p_w
        rw [hn] at lt_w
        obtain ⟨q1_w, X', q2_w, q3_w⟩ := l6 c' (by omega) p_w
        refine ⟨?_, X', q2_w, ?_⟩
        · rw [← hY, wi_k (by omega), wi_k (by omega)]
          show (dc_wi z_w 103 n_w (Int32.ofNat c_w)).1 105 _ = _
          rw [wi_k (by omega)]
          exact q1_w
        · rw [← hY, ← q3_w]
          exact wlw_k (by omega)
  · rw [f1_w, if_pos (show (0 : Int32).toInt = 0 from rfl)] at h_w
    refine ⟨z_w, (Option.some.inj h_w).symm, ⟨l1, l2, l3, l4⟩, by rw [PNw.n f2_w]; exact l5, fun c' hc' p_w => ?_⟩
    by_cases e_w : c' = c_w
    · rw [e_w] at p_w; exact absurd p_w f2_w
    · exact l6 c' (by omega) p_w
/-- one cube -/
theorem lci_w {W c_w : Nat} {m0_w z_w : dc_M} {X_w : Int64} {F_w : Int32} {r_w : (Int32 × dc_M) ⊕ dc_M} (h0 : m0_w.1 82 0 = Int32.ofNat W) (hW : W ≤ 6) (hc_w : c_w < 3 ^ W) (hX : lv_X W c_w (2 ^ W) X_w) (L_w : LCw (m0_w.2.1 82 47) (m0_w.2.1 82 48) W c_w m0_w z_w) (hF : lc_I (m0_w.2.1 82 47) (m0_w.2.1 82 48) W c_w 0 F_w) (h_w : d_X10_layCubes_l56 82 (Int32.ofNat c_w) X_w F_w 1 0 z_w = some r_w) : ∃ y_w, r_w = .inl (Int32.ofNat (c_w + 1), y_w) ∧ LCw (m0_w.2.1 82 47) (m0_w.2.1 82 48) W (c_w + 1) m0_w y_w := by
  have h3 := lc_p3 hW
  have hz0 : z_w.1 82 0 = Int32.ofNat W := (L_w.1.2.1 0 (by decide)).trans h0
  unfold d_X10_layCubes_l56 at h_w
  have yes_w : ∀ (o : Option ((Int32 × dc_M) ⊕ dc_M)) (w_w : (Int32 × dc_M) ⊕ dc_M), (o.map (fun z_w => (Sum.inr z_w : (Int32 × Int32 × Int32) ⊕ ((Int32 × dc_M) ⊕ dc_M)))) = some (.inr w_w) → o = some w_w := fun o w_w h_w => by
    cases o with
    | none => cases h_w
    | some o =>
      have h_w : (some (Sum.inr o) : Option ((Int32 × Int32 × Int32) ⊕ ((Int32 × dc_M) ⊕ dc_M))) = some (.inr w_w) := h_w
      rw [Sum.inr.inj (Option.some.inj h_w)]
  have no_w : ∀ (o : Option ((Int32 × dc_M) ⊕ dc_M)) (w_w : Int32 × Int32 × Int32), (o.map (fun z_w => (Sum.inr z_w : (Int32 × Int32 × Int32) ⊕ ((Int32 × dc_M) ⊕ dc_M)))) = some (.inl w_w) → False := fun o w_w h_w => by cases o <;> cases h_w
  have fin_w : ∀ (F_w : Int32) (i_w : Nat), lc_I (m0_w.2.1 82 47) (m0_w.2.1 82 48) W c_w i_w F_w → (i_w = W ∨ F_w = 0) → (F_w = 1 ∧ lc_prime (m0_w.2.1 82 47) (m0_w.2.1 82 48) W c_w) ∨ (F_w = 0 ∧ ¬ lc_prime (m0_w.2.1 82 47) (m0_w.2.1 82 48) W c_w) := fun F_w i_w I_w hi_w => by
    rcases I_w with ⟨a1_w, a2, a3, a4⟩ | a_w
    · rcases hi_w with hi_w | hi_w
      · rw [hi_w] at a4
        exact Or.inl ⟨a1_w, a2, a3, a4⟩
      · rw [a1_w] at hi_w; exact absurd hi_w (by decide)
    · exact Or.inr a_w
  have dgt : ∀ i_w, i_w < W → (Int32.ofNat c_w / Int32.ofNat (3 ^ i_w)) - (Int32.ofNat c_w / Int32.ofNat (3 ^ i_w)) / 3 * 3 = Int32.ofNat (dg c_w i_w) := fun i_w hi_w => by
    have pw := lc_pw (show i_w < 6 by omega)
    rw [lc_div (by omega) (by omega)]
    exact md3_w (by omega)
  refine dc_lp_inv (s := (F_w, (1 : Int32), (0 : Int32))) (fun s : Int32 × Int32 × Int32 => ∃ i_w : Nat, i_w ≤ W ∧ s.2.1 = Int32.ofNat (3 ^ i_w) ∧ s.2.2 = Int32.ofNat i_w ∧ lc_I (m0_w.2.1 82 47) (m0_w.2.1 82 48) W c_w i_w s.1) (fun r_w => ∃ y_w, r_w = .inl (Int32.ofNat (c_w + 1), y_w) ∧ LCw (m0_w.2.1 82 47) (m0_w.2.1 82 48) W (c_w + 1) m0_w y_w) (fun s s' hI hs => ?_) (fun s u_w hI hs => ?_) ⟨0, Nat.zero_le _, rfl, rfl, hF⟩ h_w
  · obtain ⟨i_w, i1_w, i2_w, i3_w, i4⟩ := hI
    obtain ⟨x_w, y_w, w_w⟩ := s
    have i2_w : y_w = Int32.ofNat (3 ^ i_w) := i2_w
    have i3_w : w_w = Int32.ofNat i_w := i3_w
    have i4 : lc_I (m0_w.2.1 82 47) (m0_w.2.1 82 48) W c_w i_w x_w := i4
    have hs : d_X10_layCubes_l56b 82 (Int32.ofNat c_w) X_w x_w y_w w_w z_w = some (.inl s') := hs
    unfold d_X10_layCubes_l56b at hs
    rw [i2_w, i3_w, hz0, mk_i (by omega), mk_i (by omega), on_1 (show i_w < 1000 by omega)] at hs
    by_cases c1_w : (W : Int) ≤ i_w
    · rw [if_pos c1_w] at hs; exact (no_w _ _ hs).elim
    · rw [if_neg c1_w] at hs
      by_cases c2_w : x_w.toInt = 0
      · rw [if_pos c2_w] at hs; exact (no_w _ _ hs).elim
      · have pw := lc_pw (show i_w < 6 by omega)
        have d3_w := dg3_w c_w i_w
        have p1_w : Int32.ofNat (3 ^ i_w) * 3 = Int32.ofNat (3 ^ (i_w + 1)) := by rw [show (3 : Int32) = Int32.ofNat 3 from rfl, lc_mul (by omega) (by omega) (by omega), Nat.pow_succ]
        rw [if_neg c2_w, dgt i_w (by omega), p1_w, mk_i (by omega)] at hs
        obtain ⟨a1_w, a2, a3, a4⟩ := i4.resolve_right (fun q_w => c2_w (by rw [q_w.1]; rfl))
        have ext_w : (dg c_w i_w ≠ 2 → lc_hit (m0_w.2.1 82 48) W (lc_up c_w i_w)) → lc_I (m0_w.2.1 82 47) (m0_w.2.1 82 48) W c_w (i_w + 1) 1 := fun q_w => Or.inl ⟨rfl, a2, a3, fun j_w hj => by
          by_cases e_w : j_w = i_w
          · rw [e_w]; exact q_w
          · exact a4 j_w (by omega)⟩
        by_cases c3_w : (dg c_w i_w : Int) = 2
        · rw [if_pos c3_w] at hs
          have hs := Sum.inl.inj (Option.some.inj hs)
          rw [← hs]
          exact ⟨i_w + 1, by omega, rfl, rfl, ext_w (fun q_w => absurd (show dg c_w i_w = 2 by omega) q_w)⟩
        · have ne_w : dg c_w i_w ≠ 2 := by omega
          have ub_w := lc_upb hW hc_w (show i_w < W by omega)
          have hue : lc_up c_w i_w = c_w + (2 - dg c_w i_w) * 3 ^ i_w := rfl
          have m2_w : (2 - dg c_w i_w) * 3 ^ i_w ≤ 2 * 3 ^ i_w := Nat.mul_le_mul_right _ (by omega)
          rw [if_neg c3_w, show (2 : Int32) = Int32.ofNat 2 from rfl, lc_sub (by omega) (by omega), lc_mul (by omega) (by omega) (by omega), lc_add (by omega), ← hue] at hs
          cases hq : d_X10_levelsOf 82 (Int32.ofNat (lc_up c_w i_w)) z_w with
          | none => rw [hq] at hs; cases hs
          | some Y =>
            rw [hq, Option.bind_some, L_w.1.2.2.1 82 (by decide)] at hs
            have hY := lc_hx (S := m0_w.2.1 82 48) hW (lo_run hz0 hW (show lc_up c_w i_w < 1000 by omega) hq)
            by_cases c4_w : Y &&& m0_w.2.1 82 48 = 0
            · rw [if_pos (cz_w.mpr c4_w)] at hs
              have hs := Sum.inl.inj (Option.some.inj hs)
              rw [← hs]
              exact ⟨i_w + 1, by omega, rfl, rfl, Or.inr ⟨rfl, fun p_w => hY.mp c4_w (p_w.2.2 i_w (by omega) ne_w)⟩⟩
            · rw [if_neg (fun q_w => c4_w (cz_w.mp q_w))] at hs
              have hs := Sum.inl.inj (Option.some.inj hs)
              rw [← hs]
              exact ⟨i_w + 1, by omega, rfl, rfl, ext_w (fun _ => Classical.not_not.mp (fun q_w => c4_w (hY.mpr q_w)))⟩
  · obtain ⟨i_w, i1_w, i2_w, i3_w, i4⟩ := hI
    obtain ⟨x_w, y_w, w_w⟩ := s
    have i3_w : w_w = Int32.ofNat i_w := i3_w
    have i4 : lc_I (m0_w.2.1 82 47) (m0_w.2.1 82 48) W c_w i_w x_w := i4
    have hs : d_X10_layCubes_l56b 82 (Int32.ofNat c_w) X_w x_w y_w w_w z_w = some (.inr u_w) := hs
    unfold d_X10_layCubes_l56b at hs
    rw [i3_w, hz0, mk_i (by omega), mk_i (by omega)] at hs
    by_cases c1_w : (W : Int) ≤ i_w
    · rw [if_pos c1_w] at hs
      exact lcb_w h0 hW hc_w hX L_w (fin_w x_w i_w i4 (Or.inl (by omega))) (yes_w _ _ hs)
    · rw [if_neg c1_w] at hs
      by_cases c2_w : x_w.toInt = 0
      · rw [if_pos c2_w] at hs
        exact lcb_w h0 hW hc_w hX L_w (fin_w x_w i_w i4 (Or.inr (Int32.toInt_inj.mp c2_w))) (yes_w _ _ hs)
      · rw [if_neg c2_w] at hs
        split at hs
        · cases hs
        · obtain ⟨Y, -, hs⟩ := Option.bind_eq_some_iff.mp hs
          split at hs <;> cases hs
/-- all cubes -/
theorem lcr_w {W : Nat} {m0_w m' : dc_M} (h0 : m0_w.1 82 0 = Int32.ofNat W) (hW : W ≤ 6) (h_w : d_X10_layCubes 82 m0_w = some m') : LCw (m0_w.2.1 82 47) (m0_w.2.1 82 48) W (3 ^ W) m0_w m' := by
  have h3 := lc_p3 hW
  unfold d_X10_layCubes d_X10_layCubes_l7 at h_w
  have step_w : ∀ (c_w : Nat) (z_w : dc_M) (r_w : (Int32 × dc_M) ⊕ dc_M), c_w ≤ 3 ^ W → LCw (m0_w.2.1 82 47) (m0_w.2.1 82 48) W c_w m0_w z_w → d_X10_layCubes_l7b 82 (Int32.ofNat c_w) z_w = some r_w → (c_w = 3 ^ W ∧ r_w = .inr z_w) ∨ (c_w < 3 ^ W ∧ ∃ y_w, r_w = .inl (Int32.ofNat (c_w + 1), y_w) ∧ LCw (m0_w.2.1 82 47) (m0_w.2.1 82 48) W (c_w + 1) m0_w y_w) := fun c_w z_w r_w hc_w L_w hz => by
    have hz0 : z_w.1 82 0 = Int32.ofNat W := (L_w.1.2.1 0 (by decide)).trans h0
    unfold d_X10_layCubes_l7b at hz
    cases hq : d_X10_cubeAll 82 z_w with
    | none => rw [hq] at hz; cases hz
    | some q_w =>
      rw [hq, Option.bind_some, ca_w hz0 hW hq, mk_i (by omega)] at hz
      by_cases c1_w : ((3 ^ W : Nat) : Int) ≤ c_w
      · rw [if_pos c1_w] at hz
        exact Or.inl ⟨by omega, (Option.some.inj hz).symm⟩
      · rw [if_neg c1_w] at hz
        right
        have c2_w : c_w < 3 ^ W := by omega
        cases hl : d_X10_levelsOf 82 (Int32.ofNat c_w) z_w with
        | none => rw [hl] at hz; cases hz
        | some X_w =>
          rw [hl, Option.bind_some, L_w.1.2.2.1 82 (by decide)] at hz
          have hX := lo_run hz0 hW (show c_w < 1000 by omega) hl
          have h48 := lc_hx (S := m0_w.2.1 82 48) hW hX
          have h47 := lc_hx (S := m0_w.2.1 82 47) hW hX
          refine ⟨c2_w, ?_⟩
          by_cases c3_w : X_w &&& m0_w.2.1 82 48 = 0
          · rw [if_neg (fun q_w => q_w (cz_w.mpr c3_w))] at hz
            by_cases c4_w : X_w &&& m0_w.2.1 82 47 = 0
            · rw [if_pos (cz_w.mpr c4_w)] at hz
              exact lci_w h0 hW c2_w hX L_w (Or.inr ⟨rfl, fun p_w => h47.mp c4_w p_w.2.1⟩) hz
            · rw [if_neg (fun q_w => c4_w (cz_w.mp q_w))] at hz
              exact lci_w h0 hW c2_w hX L_w (Or.inl ⟨rfl, h48.mp c3_w, Classical.not_not.mp (fun q_w => c4_w (h47.mpr q_w)), fun j_w hj => absurd hj (Nat.not_lt_zero j_w)⟩) hz
          · rw [if_pos (fun q_w => c3_w (cz_w.mp q_w))] at hz
            exact lci_w h0 hW c2_w hX L_w (Or.inr ⟨rfl, fun p_w => c3_w (h48.mpr p_w.1)⟩) hz
  refine dc_lp_inv (s := ((0 : Int32), dc_wi m0_w 82 49 0)) (fun s : Int32 × dc_M => ∃ c_w : Nat, c_w ≤ 3 ^ W ∧ s.1 = Int32.ofNat c_w ∧ LCw (m0_w.2.1 82 47) (m0_w.2.1 82 48) W c_w m0_w s.2) (fun u_w => LCw (m0_w.2.1 82 47) (m0_w.2.1 82 48) W (3 ^ W) m0_w u_w) (fun s s' hI hs => ?_) (fun s u_w hI hs => ?_) ⟨0, Nat.zero_le _, rfl, ⟨fun b_w b1 _ _ => funext (fun k_w => wi_k (by omega)), fun k_w hk => wi_k (by omega), fun _ _ => rfl, rfl⟩, wi_s, fun c' hc' => absurd hc' (Nat.not_lt_zero c')⟩ h_w
  · obtain ⟨c_w, i1_w, i2_w, i3_w⟩ := hI
    have hs : d_X10_layCubes_l7b 82 s.1 s.2 = some (.inl s') := hs
    rw [i2_w] at hs
    rcases step_w c_w s.2 _ i1_w i3_w hs with ⟨-, r_w⟩ | ⟨c2_w, y_w, r1_w, r2⟩
    · cases r_w
    · have r1_w := Sum.inl.inj r1_w
      rw [r1_w]
      exact ⟨c_w + 1, c2_w, rfl, r2⟩
  · obtain ⟨c_w, i1_w, i2_w, i3_w⟩ := hI
    have hs : d_X10_layCubes_l7b 82 s.1 s.2 = some (.inr u_w) := hs
    rw [i2_w] at hs
    rcases step_w c_w s.2 _ i1_w i3_w hs with ⟨r1_w, r_w⟩ | ⟨c2_w, y_w, r1_w, r2⟩
    · rw [Sum.inr.inj r_w, ← r1_w]
      exact i3_w
    · cases r1_w
/-- the fewest cubes, then the fewest letters -/
theorem lm_w {n_w : Nat} {m0_w m' : dc_M} (hn : m0_w.1 82 49 = Int32.ofNat n_w) (n7 : n_w ≤ 729) (hc_w : ∀ k_w, k_w < n_w → 0 ≤ (m0_w.1 105 k_w).toInt ∧ (m0_w.1 105 k_w).toInt ≤ 6) (h57 : m0_w.1 82 57 = 0) (can_w : mk_can n_w (m0_w.2.1 104) (mk_G (m0_w.1 105) n_w) (m0_w.2.1 82 47) 32 0 1000) (h_w : d_X10_layMakes_l9 82 m0_w = some m') : ∃ J_w l : Nat, J_w ≤ 32 ∧ l ≤ 192 ∧ m'.1 82 58 = Int32.ofNat l ∧ mk_can n_w (m0_w.2.1 104) (mk_G (m0_w.1 105) n_w) (m0_w.2.1 82 47) J_w 0 l ∧ (∀ j_w, j_w < J_w → ¬ mk_can n_w (m0_w.2.1 104) (mk_G (m0_w.1 105) n_w) (m0_w.2.1 82 47) j_w 0 1000) ∧ (∀ x_w : Nat, x_w < l → ¬ mk_can n_w (m0_w.2.1 104) (mk_G (m0_w.1 105) n_w) (m0_w.2.1 82 47) J_w 0 x_w) ∧ (∀ b_w, b_w ≠ 82 → ¬ (107 ≤ b_w ∧ b_w ≤ 109) → m'.1 b_w = m0_w.1 b_w) ∧ (∀ k_w, k_w ≠ 57 → k_w ≠ 58 → m'.1 82 k_w = m0_w.1 82 k_w) ∧ (∀ b_w, b_w ≠ 106 → m'.2.1 b_w = m0_w.2.1 b_w) ∧ m'.2.2 = m0_w.2.2 := by
  obtain ⟨C_w, hC⟩ : ∃ C_w, mk_can n_w (m0_w.2.1 104) (mk_G (m0_w.1 105) n_w) (m0_w.2.1 82 47) = C_w := ⟨_, rfl⟩
  obtain ⟨Fr_w, hFr⟩ : ∃ Fr_w : dc_M → Prop, ∀ z_w, Fr_w z_w ↔ ((∀ b_w, b_w ≠ 82 → ¬ (107 ≤ b_w ∧ b_w ≤ 109) → z_w.1 b_w = m0_w.1 b_w) ∧ (∀ k_w, k_w ≠ 57 → k_w ≠ 58 → z_w.1 82 k_w = m0_w.1 82 k_w) ∧ (∀ b_w, b_w ≠ 106 → z_w.2.1 b_w = m0_w.2.1 b_w) ∧ z_w.2.2 = m0_w.2.2) := ⟨_, fun _ => Iff.rfl⟩
  have FrC : ∀ {z_w y_w : dc_M}, Fr_w z_w → FRc z_w y_w → Fr_w y_w := fun {z_w y_w} f g_w => by
    rw [hFr] at f ⊢
    obtain ⟨f1_w, f2_w, f3_w, f4_w⟩ := f
    exact ⟨fun b_w b1 b2 => (g_w.1 b_w b2).trans (f1_w b_w b1 b2), fun k_w k1_w k2_w => (congrFun (g_w.1 82 (by decide)) k_w).trans (f2_w k_w k1_w k2_w), fun b_w hb_w => (g_w.2.1 b_w hb_w).trans (f3_w b_w hb_w), g_w.2.2.trans f4_w⟩
  have FrW : ∀ {z_w : dc_M} {k_w : Nat} {v : Int32}, Fr_w z_w → (k_w = 57 ∨ k_w = 58) → Fr_w (dc_wi z_w 82 k_w v) := fun {z_w k_w v} f hk => by
    rw [hFr] at f ⊢
    obtain ⟨f1_w, f2_w, f3_w, f4_w⟩ := f
    exact ⟨fun b_w b1 b2 => (funext (fun j_w => wi_k (by omega))).trans (f1_w b_w b1 b2), fun j_w k1_w k2_w => (wi_k (by omega)).trans (f2_w j_w k1_w k2_w), f3_w, f4_w⟩
  have six_w : ∀ {j_w : Nat} {x_w : Int}, C_w j_w 0 x_w → C_w j_w 0 (6 * j_w) := fun {j_w x_w} q_w => by
    rw [← hC] at q_w ⊢
    exact mk_six (mk_Gok hc_w) q_w
  have run_w : ∀ {z_w y_w : dc_M} {j_w : Nat} {x_w q_w : Int32}, Fr_w z_w → j_w ≤ 32 → 0 ≤ x_w.toInt → x_w.toInt ≤ 1000 → d_X10_canMake 82 0 (Int32.ofNat j_w) x_w z_w = some (q_w, y_w) → Fr_w y_w ∧ FRc z_w y_w ∧ ((q_w = 1 ∧ C_w j_w 0 x_w.toInt) ∨ (q_w = 0 ∧ ¬ C_w j_w 0 x_w.toInt)) := fun {z_w y_w j_w x_w q_w} f hj x0_w x1_w hz => by
    have f' := (hFr z_w).mp f
    have zc : z_w.1 105 = m0_w.1 105 := f'.1 105 (by decide) (by decide)
    obtain ⟨r1_w, r2⟩ := @cm_w n_w j_w z_w y_w 0 x_w q_w (by rw [f'.2.1 49 (by decide) (by decide)]; exact hn) n7 (fun k_w hk => by rw [zc]; exact hc_w k_w hk) (show j_w ≤ 69 by omega) ⟨x0_w, x1_w⟩ hz
    rw [zc, f'.2.2.1 104 (by decide), f'.2.2.1 82 (by decide), hC] at r2
    exact ⟨FrC f r1_w, r1_w, r2⟩
  rw [hC] at can_w
  -- the letters
  have let_ : ∀ {J_w : Nat} {z_w y_w : dc_M}, J_w ≤ 32 → C_w J_w 0 1000 → Fr_w z_w → z_w.1 82 57 = Int32.ofNat J_w → z_w.1 82 58 = 0 → d_X10_layMakes_l42 82 z_w = some y_w → ∃ l : Nat, l ≤ 192 ∧ y_w.1 82 58 = Int32.ofNat l ∧ C_w J_w 0 l ∧ (∀ x_w : Nat, x_w < l → ¬ C_w J_w 0 x_w) ∧ Fr_w y_w := fun {J_w z_w y_w} hJ cJ f z57 z58 hz => by
    unfold d_X10_layMakes_l42 at hz
    have c6_w := six_w cJ
    refine dc_lp_inv (s := z_w) (fun s : dc_M => ∃ l : Nat, l ≤ 6 * J_w ∧ s.1 82 57 = Int32.ofNat J_w ∧ s.1 82 58 = Int32.ofNat l ∧ (∀ x_w : Nat, x_w < l → ¬ C_w J_w 0 x_w) ∧ Fr_w s) (fun y_w => ∃ l : Nat, l ≤ 192 ∧ y_w.1 82 58 = Int32.ofNat l ∧ C_w J_w 0 l ∧ (∀ x_w : Nat, x_w < l → ¬ C_w J_w 0 x_w) ∧ Fr_w y_w) (fun s s' hI hs => ?_) (fun s u_w hI hs => ?_) ⟨0, Nat.zero_le _, z57, z58, fun x_w hx => absurd hx (Nat.not_lt_zero x_w), f⟩ hz
    · obtain ⟨l, i1_w, i2_w, i3_w, i4, i5_w⟩ := hI
      have hs : d_X10_layMakes_l42b 82 s = some (.inl s') := hs
      unfold d_X10_layMakes_l42b at hs
      rw [i2_w, i3_w] at hs
      cases hq : d_X10_canMake 82 0 (Int32.ofNat J_w) (Int32.ofNat l) s with
      | none => rw [hq] at hs; cases hs
      | some q_w =>
        rw [hq, Option.bind_some] at hs
        obtain ⟨qv, qm⟩ := q_w
        have lt_w : (Int32.ofNat l).toInt = l := mk_i (by omega)
        obtain ⟨r1_w, r0, r2⟩ := run_w i5_w hJ (by rw [lt_w]; omega) (by rw [lt_w]; omega) hq
        rw [lt_w] at r2
        rcases r2 with ⟨w1_w, w2_w⟩ | ⟨w1_w, w2_w⟩
        · rw [w1_w, if_pos (show ¬ (1 : Int32).toInt = 0 by decide)] at hs; cases hs
        · rw [w1_w, if_neg (show ¬ ¬ (0 : Int32).toInt = 0 by decide)] at hs
          have hs := Sum.inl.inj (Option.some.inj hs)
          rw [← hs]
          have ne_w : l ≠ 6 * J_w := fun e_w => w2_w (by rw [e_w, Int.natCast_mul]; exact c6_w)
          refine ⟨l + 1, by omega, ?_, ?_, fun x_w hx => ?_, FrW r1_w (Or.inr rfl)⟩
          · rw [wi_k (by omega), r0.1 82 (by decide)]; exact i2_w
          · rw [wi_s]
            show qm.1 82 58 + 1 = _
            rw [r0.1 82 (by decide), i3_w]; exact on_1 (by omega)
          · by_cases e_w : x_w = l
            · rw [e_w]; exact w2_w
            · exact i4 x_w (by omega)
    · obtain ⟨l, i1_w, i2_w, i3_w, i4, i5_w⟩ := hI
      have hs : d_X10_layMakes_l42b 82 s = some (.inr u_w) := hs
      unfold d_X10_layMakes_l42b at hs
      rw [i2_w, i3_w] at hs
      cases hq : d_X10_canMake 82 0 (Int32.ofNat J_w) (Int32.ofNat l) s with
      | none => rw [hq] at hs; cases hs
      | some q_w =>
        rw [hq, Option.bind_some] at hs
        obtain ⟨qv, qm⟩ := q_w
        have lt_w : (Int32.ofNat l).toInt = l := mk_i (by omega)
        obtain ⟨r1_w, r0, r2⟩ := run_w i5_w hJ (by rw [lt_w]; omega) (by rw [lt_w]; omega) hq
        rw [lt_w] at r2
        rcases r2 with ⟨w1_w, w2_w⟩ | ⟨w1_w, w2_w⟩
        · rw [w1_w, if_pos (show ¬ (1 : Int32).toInt = 0 by decide)] at hs
          have hs : qm = u_w := Sum.inr.inj (Option.some.inj hs)
          rw [← hs]
          exact ⟨l, by omega, by rw [r0.1 82 (by decide)]; exact i3_w, w2_w, i4, r1_w⟩
        · rw [w1_w, if_neg (show ¬ ¬ (0 : Int32).toInt = 0 by decide)] at hs; cases hs
  unfold d_X10_layMakes_l9 at h_w
  have main_w : ∃ J_w l : Nat, J_w ≤ 32 ∧ l ≤ 192 ∧ m'.1 82 58 = Int32.ofNat l ∧ C_w J_w 0 l ∧ (∀ j_w, j_w < J_w → ¬ C_w j_w 0 1000) ∧ (∀ x_w : Nat, x_w < l → ¬ C_w J_w 0 x_w) ∧ Fr_w m' := by
    refine dc_lp_inv (s := m0_w) (fun s : dc_M => ∃ J_w : Nat, J_w ≤ 32 ∧ s.1 82 57 = Int32.ofNat J_w ∧ (∀ j_w, j_w < J_w → ¬ C_w j_w 0 1000) ∧ Fr_w s) (fun y_w => ∃ J_w l : Nat, J_w ≤ 32 ∧ l ≤ 192 ∧ y_w.1 82 58 = Int32.ofNat l ∧ C_w J_w 0 l ∧ (∀ j_w, j_w < J_w → ¬ C_w j_w 0 1000) ∧ (∀ x_w : Nat, x_w < l → ¬ C_w J_w 0 x_w) ∧ Fr_w y_w) (fun s s' hI hs => ?_) (fun s u_w hI hs => ?_) ⟨0, Nat.zero_le _, h57, fun x_w hx => absurd hx (Nat.not_lt_zero x_w), (hFr m0_w).mpr ⟨fun _ _ _ => rfl, fun _ _ _ => rfl, fun _ _ => rfl, rfl⟩⟩ h_w
    · obtain ⟨J_w, i1_w, i2_w, i3_w, i4⟩ := hI
      have hs : d_X10_layMakes_l9b 82 s = some (.inl s') := hs
      unfold d_X10_layMakes_l9b at hs
      rw [i2_w] at hs
      cases hq : d_X10_canMake 82 0 (Int32.ofNat J_w) 1000 s with
      | none => rw [hq] at hs; cases hs
      | some q_w =>
        rw [hq, Option.bind_some] at hs
        obtain ⟨qv, qm⟩ := q_w
        obtain ⟨r1_w, r0, r2⟩ := run_w i4 i1_w (show 0 ≤ (1000 : Int32).toInt by decide) (show (1000 : Int32).toInt ≤ 1000 by decide) hq
        have r2 : (qv = 1 ∧ C_w J_w 0 1000) ∨ (qv = 0 ∧ ¬ C_w J_w 0 1000) := r2
        rcases r2 with ⟨w1_w, w2_w⟩ | ⟨w1_w, w2_w⟩
        · rw [w1_w, if_pos (show ¬ (1 : Int32).toInt = 0 by decide)] at hs
          generalize d_X10_layMakes_l42 82 (dc_wi qm 82 58 0) = o at hs
          cases o <;> cases hs
        · rw [w1_w, if_neg (show ¬ ¬ (0 : Int32).toInt = 0 by decide)] at hs
          have hs := Sum.inl.inj (Option.some.inj hs)
          rw [← hs]
          have ne_w : J_w ≠ 32 := fun e_w => w2_w (by rw [e_w]; exact can_w)
          refine ⟨J_w + 1, by omega, ?_, fun x_w hx => ?_, FrW r1_w (Or.inl rfl)⟩
          · rw [wi_s]
            show qm.1 82 57 + 1 = _
            rw [r0.1 82 (by decide), i2_w]; exact on_1 (by omega)
          · by_cases e_w : x_w = J_w
            · rw [e_w]; exact w2_w
            · exact i3_w x_w (by omega)
    · obtain ⟨J_w, i1_w, i2_w, i3_w, i4⟩ := hI
      have hs : d_X10_layMakes_l9b 82 s = some (.inr u_w) := hs
      unfold d_X10_layMakes_l9b at hs
      rw [i2_w] at hs
      cases hq : d_X10_canMake 82 0 (Int32.ofNat J_w) 1000 s with
      | none => rw [hq] at hs; cases hs
      | some q_w =>
        rw [hq, Option.bind_some] at hs
        obtain ⟨qv, qm⟩ := q_w
        obtain ⟨r1_w, r0, r2⟩ := run_w i4 i1_w (show 0 ≤ (1000 : Int32).toInt by decide) (show (1000 : Int32).toInt ≤ 1000 by decide) hq
        have r2 : (qv = 1 ∧ C_w J_w 0 1000) ∨ (qv = 0 ∧ ¬ C_w J_w 0 1000) := r2
        rcases r2 with ⟨w1_w, w2_w⟩ | ⟨w1_w, w2_w⟩
        · rw [w1_w, if_pos (show ¬ (1 : Int32).toInt = 0 by decide)] at hs
          cases ho : d_X10_layMakes_l42 82 (dc_wi qm 82 58 0) with
          | none => have hs : ((d_X10_layMakes_l42 82 (dc_wi qm 82 58 0)).map _) = _ := hs; rw [ho] at hs; cases hs
          | some o =>
            have hs : ((d_X10_layMakes_l42 82 (dc_wi qm 82 58 0)).map _) = _ := hs
            rw [ho] at hs
            have hs : o = u_w := Sum.inr.inj (Option.some.inj hs)
            obtain ⟨l, l1, l2, l3, l4, l5⟩ := let_ i1_w w2_w (FrW (v := 0) r1_w (Or.inr rfl)) (by rw [wi_k (by omega), r0.1 82 (by decide)]; exact i2_w) wi_s ho
            rw [hs] at l2 l5
            exact ⟨J_w, l, i1_w, l1, l2, l3, i3_w, l4, l5⟩
        · rw [w1_w, if_neg (show ¬ ¬ (0 : Int32).toInt = 0 by decide)] at hs; cases hs
  obtain ⟨J_w, l, a1_w, a2, a3, a4, a5, a6, a7⟩ := main_w
  rw [hC]
  exact ⟨J_w, l, a1_w, a2, a3, a4, a5, a6, (hFr m').mp a7⟩
