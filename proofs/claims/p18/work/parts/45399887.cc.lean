/-! ===== cost: the class's search for the least weight ===== -/
/-- what the class has gathered of the cubes -/
def CBw (n_w : Nat) (ca : Nat → Nat → Bool) (wt : Nat → Nat) (on_w : Int64) (m_w : dc_M) : Prop := (m_w.1 21 1 = Int32.ofNat n_w ∧ n_w ≤ 729) ∧ (∀ p_w, p_w < n_w → (m_w.1 24 p_w).toInt = wt p_w ∧ 256 ≤ wt p_w ∧ wt p_w ≤ 262) ∧ (∀ p_w, p_w < n_w → ∀ j_w, mk_bt (m_w.2.1 25 p_w) j_w = ca p_w j_w) ∧ (∀ u_w, u_w < 64 → mk_bt on_w u_w = true → LGw ca wt n_w u_w (m_w.1 27 u_w) (m_w.2.1 28 u_w)) ∧ ∃ k_w, k_w ≤ 64 ∧ m_w.1 21 9 = Int32.ofNat k_w ∧ (∀ i_w, i_w < k_w → ∃ u_w, u_w < 64 ∧ m_w.1 29 i_w = Int32.ofNat u_w ∧ mk_bt on_w u_w = true) ∧ ∀ u_w, u_w < 64 → mk_bt on_w u_w = true → ∃ i_w, i_w < k_w ∧ m_w.1 29 i_w = Int32.ofNat u_w
theorem CBw.eqw {n_w : Nat} {ca : Nat → Nat → Bool} {wt : Nat → Nat} {on_w : Int64} {m_w m' : dc_M} (B_w : CBw n_w ca wt on_w m_w) (e_w : ∀ b_w, b_w ≠ 22 → m'.1 b_w = m_w.1 b_w) (e2_w : m'.2.1 = m_w.2.1) : CBw n_w ca wt on_w m' := by
  unfold CBw
  rw [e_w 21 (by decide), e_w 24 (by decide), e_w 27 (by decide), e_w 29 (by decide), e2_w]
  exact B_w
section CBw
variable {n_w : Nat} {ca : Nat → Nat → Bool} {wt : Nat → Nat} {on_w : Int64} {m_w : dc_M}
theorem bl64_w {X_w : Int64} {j_w : Nat} (h_w : mk_bt X_w j_w = true) : j_w < 64 := Nat.not_le.mp (fun z_w => by rw [bthi_w X_w z_w] at h_w; cases h_w)
theorem nn_w {X_w : Int64} {p_w : Nat} (B_w : CBw n_w ca wt on_w m_w) (hp : p_w < n_w) (j_w : Nat) : mk_bt (X_w &&& (m_w.2.1 25 p_w ^^^ -1)) j_w = (mk_bt X_w j_w && !ca p_w j_w) := by
  rw [mk_and]
  by_cases h_w : j_w < 64
  · rw [mk_not _ h_w, B_w.2.2.1 p_w hp]
  · rw [bthi_w X_w (by omega), Bool.false_and, Bool.false_and]
theorem hdc_w {X_w : Int64} {q_w : Int32} (B_w : CBw n_w ca wt on_w m_w) (sub_w : ∀ j_w, mk_bt X_w j_w = true → mk_bt on_w j_w = true) (ne_w : X_w ≠ 0) (h_w : d_X1_hardest 21 X_w m_w = some q_w) : ∃ u_w, u_w < 64 ∧ q_w = Int32.ofNat u_w ∧ mk_bt X_w u_w = true := by
  obtain ⟨-, -, -, -, k_w, k1_w, k2_w, k3_w, k4_w⟩ := B_w
  unfold d_X1_hardest d_X1_hardest_l2 at h_w
  refine dc_lp_inv (s := (0 : Int32)) (fun s : Int32 => ∃ i_w, i_w ≤ k_w ∧ s = Int32.ofNat i_w ∧ ∀ j_w, j_w < i_w → ∀ u_w, u_w < 64 → m_w.1 29 j_w = Int32.ofNat u_w → mk_bt X_w u_w = false) (fun q_w => ∃ u_w, u_w < 64 ∧ q_w = Int32.ofNat u_w ∧ mk_bt X_w u_w = true) (fun s s' hI hs => ?_) (fun s u_w hI hs => ?_) ⟨0, Nat.zero_le _, rfl, fun j_w hj => absurd hj (Nat.not_lt_zero j_w)⟩ h_w
  · obtain ⟨i_w, i1_w, i2_w, i3_w⟩ := hI
    have hs : d_X1_hardest_l2b 21 X_w s m_w = some (.inl s') := hs
    unfold d_X1_hardest_l2b at hs
    rw [i2_w, k2_w, mk_i (by omega), mk_i (by omega), on_n (show i_w < 1000 by omega), show 21 + 8 = 29 from rfl] at hs
    by_cases c_w : (k_w : Int) ≤ i_w
    · rw [if_pos c_w] at hs; cases hs
    · obtain ⟨u_w, u1_w, u2_w, u3⟩ := k3_w i_w (by omega)
      rw [if_neg c_w, u2_w, ubit_w X_w u1_w, on_1 (show i_w < 1000 by omega)] at hs
      by_cases b_w : mk_bt X_w u_w = true
      · rw [if_neg (fun q_w => by rw [cb0_w, b_w] at q_w; cases q_w)] at hs; cases hs
      · rw [if_pos (cb0_w.mpr (eq_false_of_ne_true b_w))] at hs
        have hs := Sum.inl.inj (Option.some.inj hs)
        rw [← hs]
        refine ⟨i_w + 1, by omega, rfl, fun j_w hj v_w v1_w v2 => ?_⟩
        by_cases e_w : j_w = i_w
        · rw [e_w, u2_w] at v2
          have e2_w := congrArg Int32.toInt v2
          rw [mk_i (by omega), mk_i (by omega)] at e2_w
          rw [show v_w = u_w by omega]
          exact eq_false_of_ne_true b_w
        · exact i3_w j_w (by omega) v_w v1_w v2
  · obtain ⟨i_w, i1_w, i2_w, i3_w⟩ := hI
    have hs : d_X1_hardest_l2b 21 X_w s m_w = some (.inr u_w) := hs
    unfold d_X1_hardest_l2b at hs
    rw [i2_w, k2_w, mk_i (by omega), mk_i (by omega), on_n (show i_w < 1000 by omega), show 21 + 8 = 29 from rfl] at hs
    by_cases c_w : (k_w : Int) ≤ i_w
    · exfalso
      refine ne_w (mk_eq0.mpr (fun j_w hj => eq_false_of_ne_true (fun b_w => ?_)))
      obtain ⟨x_w, x1_w, x2_w⟩ := k4_w j_w hj (sub_w j_w b_w)
      have := i3_w x_w (by omega) j_w hj x2_w
      rw [b_w] at this
      cases this
    · obtain ⟨v_w, u1_w, u2_w, u3⟩ := k3_w i_w (by omega)
      rw [if_neg c_w, u2_w, ubit_w X_w u1_w] at hs
      by_cases b_w : mk_bt X_w v_w = true
      · rw [if_neg (fun q_w => by rw [cb0_w, b_w] at q_w; cases q_w)] at hs
        exact ⟨v_w, u1_w, (Sum.inr.inj (Option.some.inj hs)).symm, b_w⟩
      · rw [if_pos (cb0_w.mpr (eq_false_of_ne_true b_w))] at hs; cases hs
theorem wal_w {X_w : Int64} {q_w : Int32} (B_w : CBw n_w ca wt on_w m_w) (sub_w : ∀ j_w, mk_bt X_w j_w = true → mk_bt on_w j_w = true) (h_w : d_X1_weightAtLeast 21 X_w m_w = some q_w) : ∃ s : Nat, q_w.toInt = s ∧ ∀ L, CVw n_w ca (mk_bt X_w) L → s ≤ wsw wt L := by
  obtain ⟨-, -, -, g_w, k_w, k1_w, k2_w, k3_w, k4_w⟩ := B_w
  unfold d_X1_weightAtLeast d_X1_weightAtLeast_l8 at h_w
  have fin_w : ∀ (R_w : Int64) (s : Nat) (x_w u_w : Int32), PKw n_w ca wt (mk_bt X_w) (mk_bt R_w) s → x_w.toInt = s → x_w = u_w → ∃ s : Nat, u_w.toInt = s ∧ ∀ L, CVw n_w ca (mk_bt X_w) L → s ≤ wsw wt L := fun R_w s x_w u_w P_w e1_w e2_w => ⟨s, by rw [← e2_w]; exact e1_w, fun L hL => P_w.le hL⟩
  refine dc_lp_inv (s := (X_w, (0 : Int32), (0 : Int32))) (fun s : Int64 × Int32 × Int32 => ∃ i_w v_w : Nat, i_w ≤ k_w ∧ s.2.2 = Int32.ofNat i_w ∧ s.2.1.toInt = v_w ∧ v_w ≤ i_w * 8448 ∧ PKw n_w ca wt (mk_bt X_w) (mk_bt s.1) v_w) (fun q_w : Int32 => ∃ s : Nat, q_w.toInt = (s : Int) ∧ ∀ L, CVw n_w ca (mk_bt X_w) L → s ≤ wsw wt L) (fun s s' hI hs => ?_) (fun s u_w hI hs => ?_) ⟨0, 0, Nat.zero_le _, rfl, rfl, Nat.zero_le _, PKw.st⟩ h_w
  · obtain ⟨i_w, v_w, i1_w, i2_w, i3_w, i4, i5⟩ := hI
    obtain ⟨R_w, y_w, z_w⟩ := s
    have i2_w : z_w = Int32.ofNat i_w := i2_w
    have i3_w : y_w.toInt = v_w := i3_w
    have i5 : PKw n_w ca wt (mk_bt X_w) (mk_bt R_w) v_w := i5
    have hs : d_X1_weightAtLeast_l8b 21 R_w y_w z_w m_w = some (.inl s') := hs
    unfold d_X1_weightAtLeast_l8b at hs
    rw [i2_w, k2_w, mk_i (by omega), mk_i (by omega), on_n (show i_w < 1000 by omega), show 21 + 8 = 29 from rfl, show 21 + 7 = 28 from rfl, show 21 + 6 = 27 from rfl] at hs
    by_cases c_w : (k_w : Int) ≤ i_w
    · rw [if_pos c_w] at hs; cases hs
    · rw [if_neg c_w] at hs
      by_cases c2_w : R_w = 0
      · rw [if_pos (cz_w.mpr c2_w)] at hs; cases hs
      · obtain ⟨u_w, u1_w, u2_w, u3⟩ := k3_w i_w (by omega)
        rw [if_neg (fun q_w => c2_w (cz_w.mp q_w)), u2_w, ubit_w R_w u1_w, on_1 (show i_w < 1000 by omega), on_n (show u_w < 1000 by omega)] at hs
        by_cases b_w : mk_bt R_w u_w = true
        · rw [if_neg (fun q_w => by rw [cb0_w, b_w] at q_w; cases q_w)] at hs
          have hs := Sum.inl.inj (Option.some.inj hs)
          rw [← hs]
          obtain ⟨w_w, w1_w, w2_w, w3_w, w4_w⟩ := g_w u_w u1_w u3
          have su : (y_w + m_w.1 27 u_w).toInt = ((v_w + w_w : Nat) : Int) := by
            rw [Int32.toInt_add, i3_w, w1_w, sx_bm (by omega) (by omega)]
            omega
          refine ⟨i_w + 1, v_w + w_w, by omega, rfl, su, by omega, i5.sp b_w w3_w (fun j_w hj => ?_)⟩
          have hj : mk_bt (R_w &&& (m_w.2.1 28 u_w ^^^ -1)) j_w = true := hj
          have j64 := bl64_w hj
          rw [mk_and, mk_not _ j64, Bool.and_eq_true] at hj
          refine ⟨hj.1, fun p_w hp hc_w => eq_false_of_ne_true (fun cc => ?_)⟩
          have z_w := hj.2
          rw [w4_w p_w hp hc_w j_w j64 cc] at z_w
          cases z_w
        · rw [if_pos (cb0_w.mpr (eq_false_of_ne_true b_w))] at hs
          have hs := Sum.inl.inj (Option.some.inj hs)
          rw [← hs]
          have i6_w : v_w ≤ (i_w + 1) * 8448 := Nat.le_trans i4 (Nat.mul_le_mul_right _ (Nat.le_succ i_w))
          exact ⟨i_w + 1, v_w, by omega, rfl, i3_w, i6_w, i5⟩
  · obtain ⟨i_w, v_w, i1_w, i2_w, i3_w, i4, i5⟩ := hI
    obtain ⟨R_w, y_w, z_w⟩ := s
    have i2_w : z_w = Int32.ofNat i_w := i2_w
    have i3_w : y_w.toInt = v_w := i3_w
    have i5 : PKw n_w ca wt (mk_bt X_w) (mk_bt R_w) v_w := i5
    have hs : d_X1_weightAtLeast_l8b 21 R_w y_w z_w m_w = some (.inr u_w) := hs
    unfold d_X1_weightAtLeast_l8b at hs
    split at hs
    · exact fin_w R_w v_w y_w u_w i5 i3_w (Sum.inr.inj (Option.some.inj hs))
    · split at hs
      · exact fin_w R_w v_w y_w u_w i5 i3_w (Sum.inr.inj (Option.some.inj hs))
      · split at hs <;> cases hs
theorem iod_w {X_w : Int64} {p_w l : Nat} {q_w : Int32} (B_w : CBw n_w ca wt on_w m_w) (hp : p_w < n_w) (hl : l < 64) (h_w : d_X1_isOutdone 21 (Int32.ofNat p_w) (Int32.ofNat l) X_w m_w = some q_w) : (q_w = 0 ∧ ∀ r_w, r_w < n_w → ¬ OUw ca wt (mk_bt X_w) l p_w r_w) ∨ (q_w = 1 ∧ ∃ r_w, r_w < n_w ∧ OUw ca wt (mk_bt X_w) l p_w r_w) := by
  obtain ⟨⟨b1, b2⟩, b3, b4, -⟩ := B_w
  unfold d_X1_isOutdone d_X1_isOutdone_l13 at h_w
  rw [on_n (show p_w < 1000 by omega), show 21 + 4 = 25 from rfl] at h_w
  have step_w : ∀ (j_w : Nat) (r_w : Int32 ⊕ Int32), j_w < n_w → d_X1_isOutdone_l13b 21 (Int32.ofNat p_w) (Int32.ofNat l) X_w (m_w.2.1 25 p_w &&& X_w) (Int32.ofNat j_w) m_w = some r_w → (r_w = .inl (Int32.ofNat (j_w + 1)) ∧ ¬ OUw ca wt (mk_bt X_w) l p_w j_w) ∨ (r_w = .inr 1 ∧ OUw ca wt (mk_bt X_w) l p_w j_w) := fun j_w r_w hj hz => by
    have lvl : ∀ x_w, mk_bt (m_w.2.1 25 p_w &&& X_w) x_w = (ca p_w x_w && mk_bt X_w x_w) := fun x_w => by rw [mk_and, b4 p_w hp]
    unfold d_X1_isOutdone_l13b d_X1_isOutdone_b118 at hz
    rw [b1, mk_i (by omega), mk_i (by omega), mk_i (by omega), if_neg (show ¬ (n_w : Int) ≤ j_w by omega), on_n (show j_w < 1000 by omega), on_n (show p_w < 1000 by omega), show 21 + 4 = 25 from rfl, show 21 + 3 = 24 from rfl, on_1 (show j_w < 1000 by omega), (b3 j_w hj).1, (b3 p_w hp).1, ubit_w _ hl, b4 j_w hj] at hz
    by_cases c1_w : (j_w : Int) = p_w
    · rw [if_pos c1_w] at hz
      exact Or.inl ⟨(Option.some.inj hz).symm, fun o => o.1 (by omega)⟩
    · rw [if_neg c1_w] at hz
      by_cases c2_w : ca j_w l = true
      · rw [if_neg (fun q_w => by rw [cb0_w, c2_w] at q_w; cases q_w)] at hz
        have sup_w : (m_w.2.1 25 p_w &&& X_w) &&& (m_w.2.1 25 j_w ^^^ -1) = 0 ↔ ∀ x_w, mk_bt X_w x_w = true → ca p_w x_w = true → ca j_w x_w = true := by
          rw [mk_eq0]
          constructor
          · intro q_w x_w x1_w x2_w
            have x64 := bl64_w x1_w
            have := q_w x_w x64
            rw [mk_and, lvl, mk_not _ x64, b4 j_w hj, x1_w, x2_w] at this
            revert this
            cases ca j_w x_w <;> decide
          · intro q_w x_w x64
            rw [mk_and, lvl, mk_not _ x64, b4 j_w hj]
            by_cases y1 : mk_bt X_w x_w = true
            · by_cases y2 : ca p_w x_w = true
              · rw [y1, y2, q_w x_w y1 y2]; rfl
              · rw [eq_false_of_ne_true y2]; rfl
            · rw [eq_false_of_ne_true y1, Bool.and_false]; rfl
        by_cases c3_w : (m_w.2.1 25 p_w &&& X_w) &&& (m_w.2.1 25 j_w ^^^ -1) = 0
        · rw [if_neg (fun q_w => q_w (cz_w.mpr c3_w))] at hz
          have c3' := sup_w.mp c3_w
          by_cases c4_w : (wt j_w : Int) ≤ wt p_w
          · rw [if_pos c4_w] at hz
            by_cases c5_w : (wt j_w : Int) = wt p_w
            · rw [if_neg (fun q_w => q_w c5_w)] at hz
              have eqv : m_w.2.1 25 j_w &&& X_w = m_w.2.1 25 p_w &&& X_w ↔ ∀ x_w, mk_bt X_w x_w = true → ca j_w x_w = true → ca p_w x_w = true := by
                constructor
                · intro q_w x_w x1_w x2_w
                  have t_w := congrArg (fun y_w => mk_bt y_w x_w) q_w
                  have t_w : mk_bt (m_w.2.1 25 j_w &&& X_w) x_w = mk_bt (m_w.2.1 25 p_w &&& X_w) x_w := t_w
                  rw [mk_and, b4 j_w hj, lvl, x1_w, x2_w] at t_w
                  revert t_w
                  cases ca p_w x_w <;> decide
                · intro q_w
                  refine bt_ext (fun x_w hx => ?_)
                  rw [mk_and, b4 j_w hj, lvl]
                  by_cases y1 : mk_bt X_w x_w = true
                  · rw [y1, Bool.and_true, Bool.and_true]
                    exact Bool.eq_iff_iff.mpr ⟨q_w x_w y1, c3' x_w y1⟩
                  · rw [eq_false_of_ne_true y1, Bool.and_false, Bool.and_false]
              by_cases c6_w : m_w.2.1 25 j_w &&& X_w = m_w.2.1 25 p_w &&& X_w
              · rw [if_neg (fun q_w => q_w (lc_w.mpr (by rw [c6_w]))), if_neg (show ¬ (1 : Int32).toInt = 0 by decide)] at hz
                have e6_w := eqv.mp c6_w
                by_cases c7_w : (p_w : Int) ≤ j_w
                · rw [if_pos c7_w] at hz
                  refine Or.inl ⟨(Option.some.inj hz).symm, fun o => ?_⟩
                  rcases o.2.2.2.2 with w_w | w_w
                  · exact w_w ⟨by omega, e6_w⟩
                  · omega
                · rw [if_neg c7_w] at hz
                  exact Or.inr ⟨(Option.some.inj hz).symm, by omega, c2_w, c3', by omega, Or.inr (by omega)⟩
              · rw [if_pos (fun q_w => c6_w (Int64.toInt_inj.mp (lc_w.mp q_w))), if_pos (show (0 : Int32).toInt = 0 from rfl)] at hz
                exact Or.inr ⟨(Option.some.inj hz).symm, by omega, c2_w, c3', by omega, Or.inl (fun w_w => c6_w (eqv.mpr w_w.2))⟩
            · rw [if_pos c5_w, if_pos (show (0 : Int32).toInt = 0 from rfl)] at hz
              exact Or.inr ⟨(Option.some.inj hz).symm, by omega, c2_w, c3', by omega, Or.inl (fun w_w => c5_w (by rw [w_w.1]))⟩
          · rw [if_neg c4_w] at hz
            exact Or.inl ⟨(Option.some.inj hz).symm, fun o => by have := o.2.2.2.1; omega⟩
        · rw [if_pos (fun q_w => c3_w (cz_w.mp q_w))] at hz
          exact Or.inl ⟨(Option.some.inj hz).symm, fun o => c3_w (sup_w.mpr o.2.2.1)⟩
      · rw [if_pos (cb0_w.mpr (eq_false_of_ne_true c2_w))] at hz
        exact Or.inl ⟨(Option.some.inj hz).symm, fun o => c2_w o.2.1⟩
  refine dc_lp_inv (s := (0 : Int32)) (fun s : Int32 => ∃ j_w, j_w ≤ n_w ∧ s = Int32.ofNat j_w ∧ ∀ r_w, r_w < j_w → ¬ OUw ca wt (mk_bt X_w) l p_w r_w) (fun q_w => (q_w = 0 ∧ ∀ r_w, r_w < n_w → ¬ OUw ca wt (mk_bt X_w) l p_w r_w) ∨ (q_w = 1 ∧ ∃ r_w, r_w < n_w ∧ OUw ca wt (mk_bt X_w) l p_w r_w)) (fun s s' hI hs => ?_) (fun s u_w hI hs => ?_) ⟨0, Nat.zero_le _, rfl, fun j_w hj => absurd hj (Nat.not_lt_zero j_w)⟩ h_w
  · obtain ⟨j_w, i1_w, i2_w, i3_w⟩ := hI
    have hs : d_X1_isOutdone_l13b 21 (Int32.ofNat p_w) (Int32.ofNat l) X_w (m_w.2.1 25 p_w &&& X_w) s m_w = some (.inl s') := hs
    rw [i2_w] at hs
    by_cases c_w : j_w < n_w
    · rcases step_w j_w _ c_w hs with ⟨r1_w, r2⟩ | ⟨r1_w, -⟩
      · rw [Sum.inl.inj r1_w]
        refine ⟨j_w + 1, c_w, rfl, fun r_w hr => ?_⟩
        by_cases e_w : r_w = j_w
        · rw [e_w]; exact r2
        · exact i3_w r_w (by omega)
      · cases r1_w
    · unfold d_X1_isOutdone_l13b at hs
      rw [b1, mk_i (by omega), mk_i (by omega), if_pos (show (n_w : Int) ≤ j_w by omega)] at hs
      cases hs
  · obtain ⟨j_w, i1_w, i2_w, i3_w⟩ := hI
    have hs : d_X1_isOutdone_l13b 21 (Int32.ofNat p_w) (Int32.ofNat l) X_w (m_w.2.1 25 p_w &&& X_w) s m_w = some (.inr u_w) := hs
    rw [i2_w] at hs
    by_cases c_w : j_w < n_w
    · rcases step_w j_w _ c_w hs with ⟨r1_w, r2⟩ | ⟨r1_w, r2⟩
      · cases r1_w
      · exact Or.inr ⟨Sum.inr.inj r1_w, j_w, c_w, r2⟩
    · unfold d_X1_isOutdone_l13b at hs
      rw [b1, mk_i (by omega), mk_i (by omega), if_pos (show (n_w : Int) ≤ j_w by omega)] at hs
      rw [show j_w = n_w by omega] at i3_w
      exact Or.inl ⟨(Sum.inr.inj (Option.some.inj hs)).symm, i3_w⟩
/-- the search -/
theorem lww_w (B_w : CBw n_w ca wt on_w m_w) : ∀ (g_w : Nat) (X_w : Int64) (lim dep r_w : Int32), lwF g_w 21 X_w lim dep m_w = some r_w → 0 ≤ dep.toInt → dep.toInt ≤ 32 → -300 ≤ lim.toInt → lim.toInt ≤ 8448 → (∀ j_w, mk_bt X_w j_w = true → mk_bt on_w j_w = true) → LWw n_w ca wt (mk_bt X_w) (32 - dep.toInt).toNat lim.toInt r_w.toInt ∧ (0 ≤ r_w.toInt ∨ lim.toInt + 1 ≤ r_w.toInt) ∧ (r_w.toInt ≤ 0 ∨ r_w.toInt ≤ lim.toInt + 1)
  | 0, X_w, lim, dep, r_w, h_w, _, _, _, _, _ => by cases h_w
  | g_w + 1, X_w, lim, dep, r_w, h_w, d0, d1, l0, l1, sub_w => by
    have ih_w := lww_w B_w g_w
    have h_w : d_X1_leastWeight_B (lwF g_w) 21 X_w lim dep m_w = some r_w := h_w
    have lim1 : (lim + 1).toInt = lim.toInt + 1 := by rw [Int32.toInt_add, show (1 : Int32).toInt = 1 from rfl, sx_bm (by omega) (by omega)]
    have over : (∀ L, CVw n_w ca (mk_bt X_w) L → L.length ≤ (32 - dep.toInt).toNat → lim.toInt < wsw wt L) → lim + 1 = r_w → LWw n_w ca wt (mk_bt X_w) (32 - dep.toInt).toNat lim.toInt r_w.toInt ∧ (0 ≤ r_w.toInt ∨ lim.toInt + 1 ≤ r_w.toInt) ∧ (r_w.toInt ≤ 0 ∨ r_w.toInt ≤ lim.toInt + 1) := fun a_w e_w => by
      rw [← e_w, lim1]
      exact ⟨⟨fun q_w => by omega, fun _ => a_w⟩, Or.inr (Int.le_refl _), Or.inr (Int.le_refl _)⟩
    unfold d_X1_leastWeight_B at h_w
    by_cases c1_w : X_w = 0
    · rw [if_neg (fun q_w => q_w (cz_w.mpr c1_w))] at h_w
      have h_w := Option.some.inj h_w
      rw [← h_w]
      refine ⟨⟨fun _ => ⟨0, rfl, ⟨[], ⟨fun p_w hp => (by cases hp), fun l hl => ?_⟩, Nat.zero_le _, rfl⟩, fun L _ _ => Nat.zero_le _⟩, fun q_w L hL _ => ?_⟩, Or.inl (Int.le_refl _), Or.inl (Int.le_refl _)⟩
      · rw [c1_w, mk_zero] at hl; cases hl
      · have q_w : lim.toInt < 0 := q_w
        omega
    · rw [if_pos (fun q_w => c1_w (cz_w.mp q_w))] at h_w
      by_cases c2_w : (32 : Int) ≤ dep.toInt
      · rw [if_pos c2_w] at h_w
        refine over (fun L hL lL => ?_) (Option.some.inj h_w)
        have e_w : L = [] := List.length_eq_zero_iff.mp (by omega)
        exfalso
        refine c1_w (mk_eq0.mpr (fun i_w hi_w => eq_false_of_ne_true (fun b_w => ?_)))
        obtain ⟨p_w, p1_w, -⟩ := hL.2 i_w b_w
        rw [e_w] at p1_w
        cases p1_w
      · rw [if_neg c2_w] at h_w
        obtain ⟨s, hs, h_w⟩ := Option.bind_eq_some_iff.mp h_w
        obtain ⟨sn, s1_w, s2_w⟩ := wal_w B_w sub_w hs
        by_cases c3_w : s.toInt ≤ lim.toInt
        · rw [if_pos c3_w] at h_w
          obtain ⟨u_w, hu, h_w⟩ := Option.bind_eq_some_iff.mp h_w
          obtain ⟨v_w, v1_w, v2, v3⟩ := hdc_w B_w sub_w c1_w hu
          rw [v2] at h_w
          obtain ⟨K_w, hK_w⟩ : ∃ K_w : Nat, (32 - dep.toInt).toNat = K_w + 1 := ⟨(32 - dep.toInt).toNat - 1, by omega⟩
          have dp : (dep + 1).toInt = dep.toInt + 1 := by rw [Int32.toInt_add, show (1 : Int32).toInt = 1 from rfl, sx_bm (by omega) (by omega)]
          have hK2 : (32 - (dep + 1).toInt).toNat = K_w := by rw [dp]; omega
          obtain ⟨⟨b1, b2⟩, b3, b4, -⟩ := id B_w
          have b64_w : ∀ j_w, mk_bt X_w j_w = true → j_w < 64 := fun j_w hj => bl64_w hj
          rw [hK_w]
          have lim0 : 0 ≤ lim.toInt := by omega
          unfold d_X1_leastWeight_l43 at h_w
          refine dc_lp_inv (s := (lim + 1, (0 : Int32))) (fun s : Int32 × Int32 => ∃ p_w, p_w ≤ n_w ∧ s.2 = Int32.ofNat p_w ∧ (0 ≤ s.1.toInt ∧ s.1.toInt ≤ lim.toInt + 1) ∧ LIw n_w ca wt (mk_bt X_w) K_w v_w lim.toInt p_w s.1.toInt) (fun r_w => LWw n_w ca wt (mk_bt X_w) (K_w + 1) lim.toInt r_w.toInt ∧ (0 ≤ r_w.toInt ∨ lim.toInt + 1 ≤ r_w.toInt) ∧ (r_w.toInt ≤ 0 ∨ r_w.toInt ≤ lim.toInt + 1)) (fun s s' hI hs => ?_) (fun s u_w hI hs => ?_) ⟨0, Nat.zero_le _, rfl, by rw [lim1]; omega, by rw [lim1]; exact LIw.st⟩ h_w
          · obtain ⟨p_w, i1_w, i2_w, i3_w, i4⟩ := hI
            obtain ⟨x_w, y_w⟩ := s
            have i2_w : y_w = Int32.ofNat p_w := i2_w
            have i3_w : 0 ≤ x_w.toInt ∧ x_w.toInt ≤ lim.toInt + 1 := i3_w
            have i4 : LIw n_w ca wt (mk_bt X_w) K_w v_w lim.toInt p_w x_w.toInt := i4
            have hs : d_X1_leastWeight_l43b (lwF g_w) 21 X_w dep (Int32.ofNat v_w) x_w y_w m_w = some (.inl s') := hs
            unfold d_X1_leastWeight_l43b at hs
            rw [i2_w, b1, mk_i (by omega), mk_i (by omega), on_n (show p_w < 1000 by omega), show 21 + 4 = 25 from rfl, show 21 + 3 = 24 from rfl, on_1 (show p_w < 1000 by omega)] at hs
            by_cases k1_w : (n_w : Int) ≤ p_w
            · rw [if_pos k1_w] at hs; cases hs
            · have pn : p_w < n_w := by omega
              obtain ⟨w1_w, w2_w, w3_w⟩ := b3 p_w pn
              rw [if_neg k1_w, ubit_w _ v1_w, b4 p_w pn] at hs
              by_cases k2_w : ca p_w v_w = true
              · rw [if_neg (fun q_w => by rw [cb0_w, k2_w] at q_w; cases q_w)] at hs
                obtain ⟨o, ho, hs⟩ := Option.bind_eq_some_iff.mp hs
                rcases iod_w B_w pn v1_w ho with ⟨o1, o2⟩ | ⟨o1, o2⟩
                · rw [o1, if_pos (show (0 : Int32).toInt = 0 from rfl)] at hs
                  obtain ⟨f_w, hf, hs⟩ := Option.bind_eq_some_iff.mp hs
                  have hs := Sum.inl.inj (Option.some.inj hs)
                  rw [← hs]
                  have a1_w : (x_w - 1 - m_w.1 24 p_w).toInt = x_w.toInt - 1 - wt p_w := by
                    have a0_w : (x_w - 1).toInt = x_w.toInt - 1 := by rw [Int32.toInt_sub, show (1 : Int32).toInt = 1 from rfl, sx_bm (by omega) (by omega)]
                    rw [Int32.toInt_sub, a0_w, w1_w, sx_bm (by omega) (by omega)]
                  have hsub : ∀ j_w, mk_bt (X_w &&& (m_w.2.1 25 p_w ^^^ -1)) j_w = true → mk_bt on_w j_w = true := fun j_w hj => by
                    rw [nn_w B_w pn, Bool.and_eq_true] at hj
                    exact sub_w j_w hj.1
                  obtain ⟨q1_w, q2_w, q3_w⟩ := ih_w _ _ _ _ hf (by rw [dp]; omega) (by rw [dp]; omega) (by rw [a1_w]; omega) (by rw [a1_w]; omega) hsub
                  rw [hK2, a1_w] at q1_w
                  rw [a1_w] at q2_w q3_w
                  have a2 : (f_w + m_w.1 24 p_w).toInt = f_w.toInt + wt p_w := by rw [Int32.toInt_add, w1_w, sx_bm (by omega) (by omega)]
                  have a3 : (d_J9_min_7cf53 x_w (f_w + m_w.1 24 p_w) m_w).toInt = min x_w.toInt (f_w.toInt + wt p_w) := by
                    unfold d_J9_min_7cf53
                    rw [a2]
                    by_cases z_w : f_w.toInt + wt p_w < x_w.toInt
                    · rw [if_pos z_w, a2]; omega
                    · rw [if_neg z_w]; omega
                  exact ⟨p_w + 1, pn, rfl, by show 0 ≤ (d_J9_min_7cf53 x_w (f_w + m_w.1 24 p_w) m_w).toInt ∧ (d_J9_min_7cf53 x_w (f_w + m_w.1 24 p_w) m_w).toInt ≤ lim.toInt + 1; rw [a3]; omega, i4.sp pn (nn_w B_w pn) q1_w a3⟩
                · rw [o1, if_neg (show ¬ (1 : Int32).toInt = 0 by decide)] at hs
                  have hs := Sum.inl.inj (Option.some.inj hs)
                  rw [← hs]
                  exact ⟨p_w + 1, pn, rfl, i3_w, i4.sk (fun _ => o2)⟩
              · rw [if_pos (cb0_w.mpr (eq_false_of_ne_true k2_w))] at hs
                have hs := Sum.inl.inj (Option.some.inj hs)
                rw [← hs]
                exact ⟨p_w + 1, pn, rfl, i3_w, i4.sk (fun q_w => absurd q_w k2_w)⟩
          · obtain ⟨p_w, i1_w, i2_w, i3_w, i4⟩ := hI
            obtain ⟨x_w, y_w⟩ := s
            have i2_w : y_w = Int32.ofNat p_w := i2_w
            have i3_w : 0 ≤ x_w.toInt ∧ x_w.toInt ≤ lim.toInt + 1 := i3_w
            have i4 : LIw n_w ca wt (mk_bt X_w) K_w v_w lim.toInt p_w x_w.toInt := i4
            have hs : d_X1_leastWeight_l43b (lwF g_w) 21 X_w dep (Int32.ofNat v_w) x_w y_w m_w = some (.inr u_w) := hs
            unfold d_X1_leastWeight_l43b at hs
            rw [i2_w, b1, mk_i (by omega), mk_i (by omega)] at hs
            by_cases k1_w : (n_w : Int) ≤ p_w
            · rw [if_pos k1_w] at hs
              have hs : x_w = u_w := Sum.inr.inj (Option.some.inj hs)
              rw [← hs]
              rw [show p_w = n_w by omega] at i4
              exact ⟨i4.fn b64_w v3, Or.inl i3_w.1, Or.inr i3_w.2⟩
            · rw [if_neg k1_w] at hs
              split at hs
              · cases hs
              · obtain ⟨o, -, hs⟩ := Option.bind_eq_some_iff.mp hs
                split at hs
                · obtain ⟨f_w, -, hs⟩ := Option.bind_eq_some_iff.mp hs
                  cases hs
                · cases hs
        · rw [if_neg c3_w] at h_w
          exact over (fun L hL _ => by have := s2_w L hL; omega) (Option.some.inj h_w)
end CBw
