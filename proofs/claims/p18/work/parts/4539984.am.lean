/-! ===== aims: sums of levels, on both sides ===== -/
theorem wlw_s {m_w : dc_M} {a_w k_w : Nat} {v_w : Int64} : (dc_wl m_w a_w k_w v_w).2.1 a_w k_w = v_w := if_pos ⟨rfl, rfl⟩
theorem wlw_k {m_w : dc_M} {a_w k_w b_w j_w : Nat} {v_w : Int64} (h_w : ¬ (b_w = a_w ∧ j_w = k_w)) : (dc_wl m_w a_w k_w v_w).2.1 b_w j_w = m_w.2.1 b_w j_w := if_neg h_w
/-- levels of the states below n that aim so -/
def ORw (L A : Nat → Int32) (w_w : Nat) (v_w : Bool) : Nat → Int64
  | 0 => 0
  | t_w + 1 => if b32 (A t_w) w_w = v_w then ORw L A w_w v_w t_w ||| ((1 : Int64) <<< (Int32.toInt64 (L t_w) &&& 63)) else ORw L A w_w v_w t_w
theorem ORw.sw {L A : Nat → Int32} {w_w t_w : Nat} {v_w : Bool} : ORw L A w_w v_w (t_w + 1) = if b32 (A t_w) w_w = v_w then ORw L A w_w v_w t_w ||| ((1 : Int64) <<< (Int32.toInt64 (L t_w) &&& 63)) else ORw L A w_w v_w t_w := rfl
theorem a1_w {x : Int32} : (x &&& 1).toInt = 0 ∨ (x &&& 1).toInt = 1 := by
  have h_w : (x &&& 1).toBitVec.toNat ≤ 1 := by
    rw [Int32.toBitVec_and, BitVec.toNat_and]
    exact Nat.le_trans Nat.and_le_right (by decide)
  have e : (x &&& 1).toInt = ((x &&& 1).toBitVec.toNat : Int) := by
    show (x &&& 1).toBitVec.toInt = _
    rw [BitVec.toInt_eq_toNat_of_lt (by omega)]
  omega
theorem l1_w {x : Int64} : (x &&& 1).toInt = 0 ∨ (x &&& 1).toInt = 1 := by
  have h_w : (x &&& 1).toBitVec.toNat ≤ 1 := by
    rw [Int64.toBitVec_and, BitVec.toNat_and]
    exact Nat.le_trans Nat.and_le_right (by decide)
  have e : (x &&& 1).toInt = ((x &&& 1).toBitVec.toNat : Int) := by
    show (x &&& 1).toBitVec.toInt = _
    rw [BitVec.toInt_eq_toNat_of_lt (by omega)]
  omega
theorem b32_t1 {x e : Int32} (h_w : 0 ≤ e.toInt ∧ e.toInt < 32) : ((x >>> (e &&& 31)) &&& 1).toInt = 1 ↔ b32 x e.toNatClampNeg = true := by
  have o := a1_w (x := x >>> (e &&& 31))
  have t_w := b32_t (x := x) h_w
  constructor
  · intro q_w
    refine eq_true_of_ne_false (fun r_w => ?_)
    have := t_w.mpr r_w
    omega
  · intro q_w
    rcases o with o | o
    · have := t_w.mp o
      rw [q_w] at this
      cases this
    · exact o
theorem lc_w {x y : Int64} : (lg_cmp x y).toInt = 0 ↔ x.toInt = y.toInt := by
  have a_w := di_lt (x := x) (y := y)
  have b_w := di_gt (x := x) (y := y)
  omega
theorem g85_w {Wn : Nat} {X_w : Int64} {A x3 : Int32} {m_w : dc_M} {r_w : (Int32 × dc_M) ⊕ dc_M} (h6 : (m_w.1 15 6).toInt = Wn) (w6_w : Wn ≤ 6) (h_w : d_X8_gather_l85 15 4 x3 X_w A 0 m_w = some r_w) : ∃ m', r_w = .inl (x3 + 1, m') ∧ (∀ w_w, w_w < Wn → m'.2.1 16 w_w = (if b32 A w_w = true then m_w.2.1 16 w_w ||| X_w else m_w.2.1 16 w_w) ∧ m'.2.1 17 w_w = (if b32 A w_w = false then m_w.2.1 17 w_w ||| X_w else m_w.2.1 17 w_w)) ∧ m'.1 = m_w.1 ∧ m'.2.2 = m_w.2.2 := by
  unfold d_X8_gather_l85 at h_w
  refine dc_lp_inv (s := ((0 : Int32), m_w)) (fun z_w : Int32 × dc_M => ∃ j_w : Nat, j_w ≤ Wn ∧ z_w.1 = Int32.ofNat j_w ∧ (∀ w_w, w_w < j_w → z_w.2.2.1 16 w_w = (if b32 A w_w = true then m_w.2.1 16 w_w ||| X_w else m_w.2.1 16 w_w) ∧ z_w.2.2.1 17 w_w = (if b32 A w_w = false then m_w.2.1 17 w_w ||| X_w else m_w.2.1 17 w_w)) ∧ (∀ w_w, j_w ≤ w_w → z_w.2.2.1 16 w_w = m_w.2.1 16 w_w ∧ z_w.2.2.1 17 w_w = m_w.2.1 17 w_w) ∧ z_w.2.1 = m_w.1 ∧ z_w.2.2.2 = m_w.2.2) (fun r_w : (Int32 × dc_M) ⊕ dc_M => ∃ m', r_w = .inl (x3 + 1, m') ∧ (∀ w_w, w_w < Wn → m'.2.1 16 w_w = (if b32 A w_w = true then m_w.2.1 16 w_w ||| X_w else m_w.2.1 16 w_w) ∧ m'.2.1 17 w_w = (if b32 A w_w = false then m_w.2.1 17 w_w ||| X_w else m_w.2.1 17 w_w)) ∧ m'.1 = m_w.1 ∧ m'.2.2 = m_w.2.2) (fun z_w z' hI hz => ?_) (fun z_w r_w hI hz => ?_) ⟨0, Nat.zero_le _, rfl, fun w_w hw => absurd hw (Nat.not_lt_zero w_w), fun _ _ => ⟨rfl, rfl⟩, rfl, rfl⟩ h_w
  · obtain ⟨j_w, j1, j2_w, j3_w, j4_w, j5_w, j6_w⟩ := hI
    obtain ⟨x7, zm⟩ := z_w
    have j2_w : x7 = Int32.ofNat j_w := j2_w
    have j3_w : ∀ w_w, w_w < j_w → zm.2.1 16 w_w = (if b32 A w_w = true then m_w.2.1 16 w_w ||| X_w else m_w.2.1 16 w_w) ∧ zm.2.1 17 w_w = (if b32 A w_w = false then m_w.2.1 17 w_w ||| X_w else m_w.2.1 17 w_w) := j3_w
    have j4_w : ∀ w_w, j_w ≤ w_w → zm.2.1 16 w_w = m_w.2.1 16 w_w ∧ zm.2.1 17 w_w = m_w.2.1 17 w_w := j4_w
    have j5_w : zm.1 = m_w.1 := j5_w
    have j6_w : zm.2.2 = m_w.2.2 := j6_w
    have hz : d_X8_gather_l85b 15 4 x3 X_w A x7 zm = some (.inl z') := hz
    unfold d_X8_gather_l85b at hz
    have xt : x7.toInt = j_w := by rw [j2_w]; exact mk_i (by omega)
    have xn : x7.toNatClampNeg = j_w := by rw [j2_w]; exact on_n (by omega)
    have nx : x7 + 1 = Int32.ofNat (j_w + 1) := by rw [j2_w]; exact on_1 (by omega)
    rw [j5_w, h6, xt, xn, show 15 + 1 = 16 from rfl, show 15 + 2 = 17 from rfl] at hz
    by_cases c1_w : (Wn : Int) ≤ j_w
    · rw [if_pos c1_w] at hz; cases hz
    · rw [if_neg c1_w] at hz
      have t_w := b32_t (x := A) (e := x7) ⟨by omega, by omega⟩
      rw [xn] at t_w
      by_cases c2_w : ((A >>> (x7 &&& 31)) &&& 1).toInt = 0
      · rw [if_pos c2_w] at hz
        have hz := Sum.inl.inj (Option.some.inj hz)
        rw [← hz]
        have b_w := t_w.mp c2_w
        refine ⟨j_w + 1, by omega, nx, fun w_w hw => ?_, fun w_w hw => ?_, j5_w, j6_w⟩
        · show (dc_wl zm 17 j_w (zm.2.1 17 j_w ||| X_w)).2.1 16 w_w = _ ∧ (dc_wl zm 17 j_w (zm.2.1 17 j_w ||| X_w)).2.1 17 w_w = _
          by_cases e : w_w = j_w
          · rw [e, wlw_k (by omega), wlw_s, b_w, if_neg (show ¬ false = true by decide), if_pos (show false = false from rfl), (j4_w j_w (Nat.le_refl j_w)).1, (j4_w j_w (Nat.le_refl j_w)).2]
            exact ⟨rfl, rfl⟩
          · rw [wlw_k (by omega), wlw_k (by omega)]
            exact j3_w w_w (by omega)
        · show (dc_wl zm 17 j_w (zm.2.1 17 j_w ||| X_w)).2.1 16 w_w = _ ∧ (dc_wl zm 17 j_w (zm.2.1 17 j_w ||| X_w)).2.1 17 w_w = _
          rw [wlw_k (by omega), wlw_k (by omega)]
          exact j4_w w_w (by omega)
      · rw [if_neg c2_w] at hz
        have hz := Sum.inl.inj (Option.some.inj hz)
        rw [← hz]
        have b_w := eq_true_of_ne_false (fun r_w => c2_w (t_w.mpr r_w))
        refine ⟨j_w + 1, by omega, nx, fun w_w hw => ?_, fun w_w hw => ?_, j5_w, j6_w⟩
        · show (dc_wl zm 16 j_w (zm.2.1 16 j_w ||| X_w)).2.1 16 w_w = _ ∧ (dc_wl zm 16 j_w (zm.2.1 16 j_w ||| X_w)).2.1 17 w_w = _
          by_cases e : w_w = j_w
          · rw [e, wlw_s, wlw_k (by omega), b_w, if_pos (show true = true from rfl), if_neg (show ¬ true = false by decide), (j4_w j_w (Nat.le_refl j_w)).1, (j4_w j_w (Nat.le_refl j_w)).2]
            exact ⟨rfl, rfl⟩
          · rw [wlw_k (by omega), wlw_k (by omega)]
            exact j3_w w_w (by omega)
        · show (dc_wl zm 16 j_w (zm.2.1 16 j_w ||| X_w)).2.1 16 w_w = _ ∧ (dc_wl zm 16 j_w (zm.2.1 16 j_w ||| X_w)).2.1 17 w_w = _
          rw [wlw_k (by omega), wlw_k (by omega)]
          exact j4_w w_w (by omega)
  · obtain ⟨j_w, j1, j2_w, j3_w, j4_w, j5_w, j6_w⟩ := hI
    obtain ⟨x7, zm⟩ := z_w
    have j2_w : x7 = Int32.ofNat j_w := j2_w
    have j3_w : ∀ w_w, w_w < j_w → zm.2.1 16 w_w = (if b32 A w_w = true then m_w.2.1 16 w_w ||| X_w else m_w.2.1 16 w_w) ∧ zm.2.1 17 w_w = (if b32 A w_w = false then m_w.2.1 17 w_w ||| X_w else m_w.2.1 17 w_w) := j3_w
    have j5_w : zm.1 = m_w.1 := j5_w
    have j6_w : zm.2.2 = m_w.2.2 := j6_w
    have hz : d_X8_gather_l85b 15 4 x3 X_w A x7 zm = some (.inr r_w) := hz
    unfold d_X8_gather_l85b at hz
    have xt : x7.toInt = j_w := by rw [j2_w]; exact mk_i (by omega)
    rw [j5_w, h6, xt] at hz
    by_cases c1_w : (Wn : Int) ≤ j_w
    · rw [if_pos c1_w] at hz
      have hz := Sum.inr.inj (Option.some.inj hz)
      exact ⟨zm, hz.symm, fun w_w hw => j3_w w_w (by omega), j5_w, j6_w⟩
    · rw [if_neg c1_w] at hz
      split at hz
      · cases hz
      · cases hz
theorem g57_w {Wn n : Nat} {L A : Nat → Int32} {m_w e : dc_M} (h6 : (m_w.1 15 6).toInt = Wn) (w6_w : Wn ≤ 6) (hn : n ≤ 200) (h40 : (m_w.1 4 0).toInt = n) (hL : ∀ t_w, t_w < n → m_w.1 7 t_w = L t_w ∧ m_w.1 7 t_w ^^^ m_w.1 8 t_w = A t_w) (h0 : ∀ w_w, w_w < Wn → m_w.2.1 16 w_w = 0 ∧ m_w.2.1 17 w_w = 0) (h_w : d_X8_gather_l57 15 4 0 m_w = some e) : (∀ w_w, w_w < Wn → e.2.1 16 w_w = ORw L A w_w true n ∧ e.2.1 17 w_w = ORw L A w_w false n) ∧ e.1 = m_w.1 ∧ e.2.2 = m_w.2.2 := by
  unfold d_X8_gather_l57 at h_w
  have step_w : ∀ (t_w : Nat) (zm : dc_M) (u_w : (Int32 × dc_M) ⊕ dc_M), t_w < n → (∀ w_w, w_w < Wn → zm.2.1 16 w_w = ORw L A w_w true t_w ∧ zm.2.1 17 w_w = ORw L A w_w false t_w) → zm.1 = m_w.1 → zm.2.2 = m_w.2.2 → d_X8_gather_l57b 15 4 (Int32.ofNat t_w) zm = some u_w → ∃ m', u_w = .inl (Int32.ofNat t_w + 1, m') ∧ (∀ w_w, w_w < Wn → m'.2.1 16 w_w = ORw L A w_w true (t_w + 1) ∧ m'.2.1 17 w_w = ORw L A w_w false (t_w + 1)) ∧ m'.1 = m_w.1 ∧ m'.2.2 = m_w.2.2 := fun t_w zm u_w ht j3_w j5_w j6_w hz => by
    unfold d_X8_gather_l57b at hz
    have tt : (Int32.ofNat t_w).toInt = t_w := mk_i (by omega)
    have tn_w : (Int32.ofNat t_w).toNatClampNeg = t_w := on_n (by omega)
    rw [show zm.1 4 0 = m_w.1 4 0 by rw [j5_w], h40, tt, if_neg (show ¬ (n : Int) ≤ t_w by omega), show 4 + 3 = 7 from rfl, tn_w, show zm.1 7 t_w = L t_w by rw [j5_w]; exact (hL t_w ht).1] at hz
    obtain ⟨m', r1_w, r2, r3, r4⟩ := g85_w (Wn := Wn) (by rw [j5_w]; exact h6) w6_w hz
    refine ⟨m', r1_w, fun w_w hw => ?_, r3.trans j5_w, r4.trans j6_w⟩
    have ea : d_X7_aims 4 (Int32.ofNat t_w) zm = A t_w := by
      unfold d_X7_aims
      rw [show 4 + 3 = 7 from rfl, show 4 + 4 = 8 from rfl, tn_w, j5_w]
      exact (hL t_w ht).2
    obtain ⟨q1_w, q2_w⟩ := r2 w_w hw
    rw [ea, (j3_w w_w hw).1] at q1_w
    rw [ea, (j3_w w_w hw).2] at q2_w
    exact ⟨q1_w, q2_w⟩
  refine dc_lp_inv (s := ((0 : Int32), m_w)) (fun z_w : Int32 × dc_M => ∃ t_w : Nat, t_w ≤ n ∧ z_w.1 = Int32.ofNat t_w ∧ (∀ w_w, w_w < Wn → z_w.2.2.1 16 w_w = ORw L A w_w true t_w ∧ z_w.2.2.1 17 w_w = ORw L A w_w false t_w) ∧ z_w.2.1 = m_w.1 ∧ z_w.2.2.2 = m_w.2.2) (fun e : dc_M => (∀ w_w, w_w < Wn → e.2.1 16 w_w = ORw L A w_w true n ∧ e.2.1 17 w_w = ORw L A w_w false n) ∧ e.1 = m_w.1 ∧ e.2.2 = m_w.2.2) (fun z_w z' hI hz => ?_) (fun z_w e hI hz => ?_) ⟨0, Nat.zero_le _, rfl, h0, rfl, rfl⟩ h_w
  · obtain ⟨t_w, t1_w, t2_w, t3_w, t4_w, t5_w⟩ := hI
    obtain ⟨x3, zm⟩ := z_w
    have t2_w : x3 = Int32.ofNat t_w := t2_w
    have t4_w : zm.1 = m_w.1 := t4_w
    have hz : d_X8_gather_l57b 15 4 x3 zm = some (.inl z') := hz
    rw [t2_w] at hz
    by_cases c1_w : t_w < n
    · obtain ⟨m', r1_w, r2, r3, r4⟩ := step_w t_w zm _ c1_w t3_w t4_w t5_w hz
      have r1_w := Sum.inl.inj r1_w
      rw [r1_w]
      exact ⟨t_w + 1, by omega, on_1 (by omega), r2, r3, r4⟩
    · unfold d_X8_gather_l57b at hz
      rw [show zm.1 4 0 = m_w.1 4 0 by rw [t4_w], h40, mk_i (by omega), if_pos (show (n : Int) ≤ t_w by omega)] at hz
      cases hz
  · obtain ⟨t_w, t1_w, t2_w, t3_w, t4_w, t5_w⟩ := hI
    obtain ⟨x3, zm⟩ := z_w
    have t2_w : x3 = Int32.ofNat t_w := t2_w
    have t3_w : ∀ w_w, w_w < Wn → zm.2.1 16 w_w = ORw L A w_w true t_w ∧ zm.2.1 17 w_w = ORw L A w_w false t_w := t3_w
    have t4_w : zm.1 = m_w.1 := t4_w
    have t5_w : zm.2.2 = m_w.2.2 := t5_w
    have hz : d_X8_gather_l57b 15 4 x3 zm = some (.inr e) := hz
    rw [t2_w] at hz
    by_cases c1_w : t_w < n
    · obtain ⟨m', r1_w, -⟩ := step_w t_w zm _ c1_w t3_w t4_w t5_w hz
      cases r1_w
    · unfold d_X8_gather_l57b at hz
      rw [show zm.1 4 0 = m_w.1 4 0 by rw [t4_w], h40, mk_i (by omega), if_pos (show (n : Int) ≤ t_w by omega)] at hz
      have hz := Sum.inr.inj (Option.some.inj hz)
      rw [← hz]
      have tn_w : t_w = n := by omega
      rw [tn_w] at t3_w
      exact ⟨t3_w, t4_w, t5_w⟩
theorem ga_run {Wn n : Nat} {W_w : Int32} {c0_w c1_w : dc_M} (hn : n ≤ 200) (h40 : (c0_w.1 4 0).toInt = n) (hW : W_w.toInt = Wn) (w6_w : Wn ≤ 6) (h_w : d_X8_gather 15 W_w 4 c0_w = some c1_w) : (∀ w_w, w_w < Wn → c1_w.2.1 16 w_w = ORw (c0_w.1 7) (fun t_w => c0_w.1 7 t_w ^^^ c0_w.1 8 t_w) w_w true n ∧ c1_w.2.1 17 w_w = ORw (c0_w.1 7) (fun t_w => c0_w.1 7 t_w ^^^ c0_w.1 8 t_w) w_w false n) ∧ c1_w.1 15 6 = W_w ∧ (c1_w.1 15 7).toInt = ((3 ^ Wn : Nat) : Int) := by
  unfold d_X8_gather at h_w
  have v6 : (dc_wi (dc_wi (dc_wi c0_w 15 6 W_w) 15 8 0) 15 7 1).1 15 6 = W_w := by rw [wi_k (by omega), wi_k (by omega)]; exact wi_s
  have v7 : (dc_wi (dc_wi (dc_wi c0_w 15 6 W_w) 15 8 0) 15 7 1).1 15 7 = 1 := wi_s
  have vk : ∀ b_w j_w, b_w ≠ 15 → (dc_wi (dc_wi (dc_wi c0_w 15 6 W_w) 15 8 0) 15 7 1).1 b_w j_w = c0_w.1 b_w j_w := fun b_w j_w hb_w => by rw [wi_k (by omega), wi_k (by omega), wi_k (by omega)]
  generalize dc_wi (dc_wi (dc_wi c0_w 15 6 W_w) 15 8 0) 15 7 1 = m1 at *
  unfold d_X8_gather_l17 at h_w
  have p6_w : ∀ j_w, j_w ≤ 6 → 3 ^ j_w ≤ 729 := fun j_w hj => Nat.le_trans (Nat.pow_le_pow_right (by decide) hj) (by decide)
  refine dc_lp_inv (s := ((0 : Int32), m1)) (fun z_w : Int32 × dc_M => ∃ j_w : Nat, j_w ≤ Wn ∧ z_w.1 = Int32.ofNat j_w ∧ (∀ w_w, w_w < j_w → z_w.2.2.1 16 w_w = 0 ∧ z_w.2.2.1 17 w_w = 0) ∧ z_w.2.1 15 6 = W_w ∧ (z_w.2.1 15 7).toInt = ((3 ^ j_w : Nat) : Int) ∧ ∀ b_w k_w, b_w ≠ 15 → z_w.2.1 b_w k_w = c0_w.1 b_w k_w) (fun c1_w : dc_M => (∀ w_w, w_w < Wn → c1_w.2.1 16 w_w = ORw (c0_w.1 7) (fun t_w => c0_w.1 7 t_w ^^^ c0_w.1 8 t_w) w_w true n ∧ c1_w.2.1 17 w_w = ORw (c0_w.1 7) (fun t_w => c0_w.1 7 t_w ^^^ c0_w.1 8 t_w) w_w false n) ∧ c1_w.1 15 6 = W_w ∧ (c1_w.1 15 7).toInt = ((3 ^ Wn : Nat) : Int)) (fun z_w z' hI hz => ?_) (fun z_w e hI hz => ?_) ⟨0, Nat.zero_le _, rfl, fun w_w hw => absurd hw (Nat.not_lt_zero w_w), v6, by show (m1.1 15 7).toInt = _; rw [v7]; rfl, vk⟩ h_w
  · obtain ⟨j_w, j1, j2_w, j3_w, j4_w, j5_w, j6_w⟩ := hI
    obtain ⟨x3, zm⟩ := z_w
    have j2_w : x3 = Int32.ofNat j_w := j2_w
    have j3_w : ∀ w_w, w_w < j_w → zm.2.1 16 w_w = 0 ∧ zm.2.1 17 w_w = 0 := j3_w
    have j4_w : zm.1 15 6 = W_w := j4_w
    have j5_w : (zm.1 15 7).toInt = ((3 ^ j_w : Nat) : Int) := j5_w
    have j6_w : ∀ b_w k_w, b_w ≠ 15 → zm.1 b_w k_w = c0_w.1 b_w k_w := j6_w
    have hz : d_X8_gather_l17b 15 4 x3 zm = some (.inl z') := hz
    unfold d_X8_gather_l17b at hz
    have xt : x3.toInt = j_w := by rw [j2_w]; exact mk_i (by omega)
    have xn : x3.toNatClampNeg = j_w := by rw [j2_w]; exact on_n (by omega)
    have nx : x3 + 1 = Int32.ofNat (j_w + 1) := by rw [j2_w]; exact on_1 (by omega)
    rw [j4_w, hW, xt, xn, show 15 + 1 = 16 from rfl, show 15 + 2 = 17 from rfl] at hz
    by_cases c1_w : (Wn : Int) ≤ j_w
    · rw [if_pos c1_w] at hz
      cases hq : d_X8_gather_l57 15 4 0 zm with
      | none => rw [hq] at hz; cases hz
      | some q_w => rw [hq] at hz; cases hz
    · rw [if_neg c1_w] at hz
      have hz := Sum.inl.inj (Option.some.inj hz)
      rw [← hz]
      have pj := p6_w j_w (by omega)
      refine ⟨j_w + 1, by omega, nx, fun w_w hw => ?_, show (dc_wi zm 15 7 (zm.1 15 7 * 3)).1 15 6 = W_w from (wi_k (by omega)).trans j4_w, ?_, fun b_w k_w hb_w => show (dc_wi zm 15 7 (zm.1 15 7 * 3)).1 b_w k_w = c0_w.1 b_w k_w from (wi_k (by omega)).trans (j6_w b_w k_w hb_w)⟩
      · show (dc_wl (dc_wl (dc_wi zm 15 7 (zm.1 15 7 * 3)) 16 j_w 0) 17 j_w 0).2.1 16 w_w = 0 ∧ (dc_wl (dc_wl (dc_wi zm 15 7 (zm.1 15 7 * 3)) 16 j_w 0) 17 j_w 0).2.1 17 w_w = 0
        by_cases e : w_w = j_w
        · rw [e, wlw_k (by omega), wlw_s, wlw_s]
          exact ⟨rfl, rfl⟩
        · rw [wlw_k (by omega), wlw_k (by omega), wlw_k (by omega), wlw_k (by omega)]
          exact j3_w w_w (by omega)
      · show ((dc_wi zm 15 7 (zm.1 15 7 * 3)).1 15 7).toInt = _
        rw [wi_s, Int32.toInt_mul, j5_w, show (3 : Int32).toInt = 3 from rfl, show (3 : Nat) ^ (j_w + 1) = 3 ^ j_w * 3 from Nat.pow_succ 3 j_w]
        generalize 3 ^ j_w = p at pj ⊢
        rw [sx_bm (by omega) (by omega)]
        omega
  · obtain ⟨j_w, j1, j2_w, j3_w, j4_w, j5_w, j6_w⟩ := hI
    obtain ⟨x3, zm⟩ := z_w
    have j2_w : x3 = Int32.ofNat j_w := j2_w
    have j3_w : ∀ w_w, w_w < j_w → zm.2.1 16 w_w = 0 ∧ zm.2.1 17 w_w = 0 := j3_w
    have j4_w : zm.1 15 6 = W_w := j4_w
    have j5_w : (zm.1 15 7).toInt = ((3 ^ j_w : Nat) : Int) := j5_w
    have j6_w : ∀ b_w k_w, b_w ≠ 15 → zm.1 b_w k_w = c0_w.1 b_w k_w := j6_w
    have hz : d_X8_gather_l17b 15 4 x3 zm = some (.inr e) := hz
    unfold d_X8_gather_l17b at hz
    have xt : x3.toInt = j_w := by rw [j2_w]; exact mk_i (by omega)
    rw [j4_w, hW, xt] at hz
    by_cases c1_w : (Wn : Int) ≤ j_w
    · rw [if_pos c1_w] at hz
      have je : j_w = Wn := by omega
      rw [je] at j3_w j5_w
      cases hq : d_X8_gather_l57 15 4 0 zm with
      | none => rw [hq] at hz; cases hz
      | some q_w =>
        rw [hq] at hz
        have hz := Sum.inr.inj (Option.some.inj hz)
        rw [← hz]
        obtain ⟨g1, g2, -⟩ := g57_w (Wn := Wn) (n := n) (L := c0_w.1 7) (A := fun t_w => c0_w.1 7 t_w ^^^ c0_w.1 8 t_w) (by rw [j4_w]; exact hW) w6_w hn (by rw [j6_w 4 0 (by decide)]; exact h40) (fun t_w _ => by rw [j6_w 7 t_w (by decide), j6_w 8 t_w (by decide)]; exact ⟨rfl, rfl⟩) j3_w hq
        exact ⟨g1, by rw [g2]; exact j4_w, by rw [g2]; exact j5_w⟩
    · rw [if_neg c1_w] at hz
      cases hz
theorem laa_run {n : Nat} {x1_w : Int32} {L A : Nat → Int32} {m_w e : dc_M} (hx : 0 ≤ x1_w.toInt ∧ x1_w.toInt < 32) (hn : n ≤ 200) (h32 : (m_w.1 82 32).toInt = n) (hL : ∀ t_w, t_w < n → m_w.1 101 t_w = L t_w) (hA : ∀ t_w M q_w, t_w < n → M.1 = m_w.1 → d_X10_aims 82 (Int32.ofNat t_w) M = some q_w → q_w = A t_w) (h_w : d_X10_layAims 82 x1_w m_w = some e) : e.2.1 82 47 = ORw L A x1_w.toNatClampNeg true n ∧ e.2.1 82 48 = ORw L A x1_w.toNatClampNeg false n ∧ e.1 = m_w.1 ∧ e.2.2 = m_w.2.2 := by
  unfold d_X10_layAims at h_w
  have v47 : (dc_wl (dc_wl m_w 82 47 0) 82 48 0).2.1 82 47 = 0 := by rw [wlw_k (by omega)]; exact wlw_s
  have v48 : (dc_wl (dc_wl m_w 82 47 0) 82 48 0).2.1 82 48 = 0 := wlw_s
  have v1_w : (dc_wl (dc_wl m_w 82 47 0) 82 48 0).1 = m_w.1 := rfl
  have v2 : (dc_wl (dc_wl m_w 82 47 0) 82 48 0).2.2 = m_w.2.2 := rfl
  generalize dc_wl (dc_wl m_w 82 47 0) 82 48 0 = m1 at *
  unfold d_X10_layAims_l12 at h_w
  refine dc_lp_inv (s := ((0 : Int32), m1)) (fun z_w : Int32 × dc_M => ∃ t_w : Nat, t_w ≤ n ∧ z_w.1 = Int32.ofNat t_w ∧ z_w.2.2.1 82 47 = ORw L A x1_w.toNatClampNeg true t_w ∧ z_w.2.2.1 82 48 = ORw L A x1_w.toNatClampNeg false t_w ∧ z_w.2.1 = m_w.1 ∧ z_w.2.2.2 = m_w.2.2) (fun e : dc_M => e.2.1 82 47 = ORw L A x1_w.toNatClampNeg true n ∧ e.2.1 82 48 = ORw L A x1_w.toNatClampNeg false n ∧ e.1 = m_w.1 ∧ e.2.2 = m_w.2.2) (fun z_w z' hI hz => ?_) (fun z_w e hI hz => ?_) ⟨0, Nat.zero_le _, rfl, v47, v48, v1_w, v2⟩ h_w
  · obtain ⟨t_w, t1_w, t2_w, t3_w, t4_w, t5_w, t6⟩ := hI
    obtain ⟨x2_w, zm⟩ := z_w
    have t2_w : x2_w = Int32.ofNat t_w := t2_w
    have t3_w : zm.2.1 82 47 = ORw L A x1_w.toNatClampNeg true t_w := t3_w
    have t4_w : zm.2.1 82 48 = ORw L A x1_w.toNatClampNeg false t_w := t4_w
    have t5_w : zm.1 = m_w.1 := t5_w
    have t6 : zm.2.2 = m_w.2.2 := t6
    have hz : d_X10_layAims_l12b 82 x1_w x2_w zm = some (.inl z') := hz
    unfold d_X10_layAims_l12b at hz
    have xt : x2_w.toInt = t_w := by rw [t2_w]; exact mk_i (by omega)
    have xn : x2_w.toNatClampNeg = t_w := by rw [t2_w]; exact on_n (by omega)
    have nx : x2_w + 1 = Int32.ofNat (t_w + 1) := by rw [t2_w]; exact on_1 (by omega)
    rw [show zm.1 82 32 = m_w.1 82 32 by rw [t5_w], h32, xt] at hz
    by_cases c1_w : (n : Int) ≤ t_w
    · rw [if_pos c1_w] at hz; cases hz
    · rw [if_neg c1_w] at hz
      cases hq : d_X10_aims 82 x2_w zm with
      | none => rw [hq] at hz; cases hz
      | some q_w =>
        rw [hq, Option.bind_some, show 82 + 19 = 101 from rfl, xn, show zm.1 101 t_w = L t_w by rw [t5_w]; exact hL t_w (by omega)] at hz
        have qa : q_w = A t_w := hA t_w zm q_w (by omega) t5_w (by rw [← t2_w]; exact hq)
        have b1 := b32_t1 (x := q_w) hx
        rw [qa] at b1 hz
        by_cases c2_w : ((A t_w >>> (x1_w &&& 31)) &&& 1).toInt = 1
        · rw [if_neg (fun r_w => r_w c2_w)] at hz
          have hz := Sum.inl.inj (Option.some.inj hz)
          rw [← hz]
          have b_w := b1.mp c2_w
          refine ⟨t_w + 1, by omega, nx, ?_, ?_, t5_w, t6⟩
          · show (dc_wl zm 82 47 _).2.1 82 47 = ORw L A x1_w.toNatClampNeg true (t_w + 1)
            rw [wlw_s, t3_w]
            rw [ORw.sw, if_pos b_w]
          · show (dc_wl zm 82 47 _).2.1 82 48 = ORw L A x1_w.toNatClampNeg false (t_w + 1)
            rw [wlw_k (by omega), t4_w]
            rw [ORw.sw, if_neg (by rw [b_w]; decide)]
        · rw [if_pos c2_w] at hz
          have hz := Sum.inl.inj (Option.some.inj hz)
          rw [← hz]
          have b_w : b32 (A t_w) x1_w.toNatClampNeg = false := eq_false_of_ne_true (fun r_w => c2_w (b1.mpr r_w))
          refine ⟨t_w + 1, by omega, nx, ?_, ?_, t5_w, t6⟩
          · show (dc_wl zm 82 48 _).2.1 82 47 = ORw L A x1_w.toNatClampNeg true (t_w + 1)
            rw [wlw_k (by omega), t3_w]
            rw [ORw.sw, if_neg (by rw [b_w]; decide)]
          · show (dc_wl zm 82 48 _).2.1 82 48 = ORw L A x1_w.toNatClampNeg false (t_w + 1)
            rw [wlw_s, t4_w]
            rw [ORw.sw, if_pos b_w]
  · obtain ⟨t_w, t1_w, t2_w, t3_w, t4_w, t5_w, t6⟩ := hI
    obtain ⟨x2_w, zm⟩ := z_w
    have t2_w : x2_w = Int32.ofNat t_w := t2_w
    have t5_w : zm.1 = m_w.1 := t5_w
    have hz : d_X10_layAims_l12b 82 x1_w x2_w zm = some (.inr e) := hz
    unfold d_X10_layAims_l12b at hz
    have xt : x2_w.toInt = t_w := by rw [t2_w]; exact mk_i (by omega)
    rw [show zm.1 82 32 = m_w.1 82 32 by rw [t5_w], h32, xt] at hz
    by_cases c1_w : (n : Int) ≤ t_w
    · rw [if_pos c1_w] at hz
      have hz := Sum.inr.inj (Option.some.inj hz)
      rw [← hz]
      have tn_w : t_w = n := by omega
      rw [tn_w] at t3_w t4_w
      exact ⟨t3_w, t4_w, t5_w, t6⟩
    · rw [if_neg c1_w] at hz
      cases hq : d_X10_aims 82 x2_w zm with
      | none => rw [hq] at hz; cases hz
      | some q_w =>
        rw [hq, Option.bind_some] at hz
        split at hz
        · cases hz
        · cases hz
