/-! ===== places fed and taken from once ===== -/
def ONw (X : Int32) (k_w : Nat) : Prop := k_w < 32 ∧ ∀ j_w, j_w < 32 → (b32 X j_w = true ↔ j_w = k_w)
theorem cnt_z {X : Int32} : ∀ n, (∀ j_w, j_w < n → b32 X j_w = false) → cnt X n = 0
  | 0, _ => rfl
  | n + 1, h => by
    unfold cnt
    rw [cnt_z n (fun j_w hj => h j_w (by omega)), h n (Nat.lt_succ_self n)]
    rfl
theorem cnt_1 {X : Int32} : ∀ n, cnt X n = 1 ↔ ∃ k_w, k_w < n ∧ ∀ j_w, j_w < n → (b32 X j_w = true ↔ j_w = k_w)
  | 0 => ⟨fun h => absurd h (show ¬ (0 : Nat) = 1 by decide), fun ⟨k_w, h, _⟩ => absurd h (Nat.not_lt_zero k_w)⟩
  | n + 1 => by
    have ih_w := cnt_1 (X := X) n
    unfold cnt
    by_cases c_w : b32 X n = true
    · rw [if_pos c_w]
      constructor
      · intro h
        have z_w : cnt X n = 0 := by omega
        have nz : ∀ j_w, j_w < n → b32 X j_w = false := fun j_w hj => by
          refine eq_false_of_ne_true (fun q_w => ?_)
          have : ∀ m_w, j_w < m_w → m_w ≤ n → 0 < cnt X m_w := fun m_w => by
            induction m_w with
            | zero => intro h; exact absurd h (Nat.not_lt_zero j_w)
            | succ m_w im =>
              intro h1 h2
              unfold cnt
              by_cases y_w : j_w = m_w
              · rw [← y_w, if_pos q_w]; omega
              · have := im (by omega) (by omega)
                omega
          have := this n hj (Nat.le_refl n)
          omega
        refine ⟨n, Nat.lt_succ_self n, fun j_w hj => ?_⟩
        by_cases y_w : j_w = n
        · rw [y_w]; exact ⟨fun _ => rfl, fun _ => c_w⟩
        · rw [nz j_w (by omega)]
          exact ⟨fun q_w => (by cases q_w), fun q_w => absurd q_w y_w⟩
      · rintro ⟨k_w, k1, k2⟩
        have nk : n = k_w := (k2 n (Nat.lt_succ_self n)).mp c_w
        rw [cnt_z n (fun j_w hj => eq_false_of_ne_true (fun q_w => by have := (k2 j_w (by omega)).mp q_w; omega))]
    · rw [if_neg c_w, Nat.add_zero, ih_w]
      constructor
      · rintro ⟨k_w, k1, k2⟩
        refine ⟨k_w, by omega, fun j_w hj => ?_⟩
        by_cases y_w : j_w = n
        · rw [y_w]; exact ⟨fun q_w => absurd q_w c_w, fun q_w => by omega⟩
        · exact k2 j_w (by omega)
      · rintro ⟨k_w, k1, k2⟩
        have nk : n ≠ k_w := fun q_w => c_w ((k2 n (Nat.lt_succ_self n)).mpr q_w)
        exact ⟨k_w, by omega, fun j_w hj => k2 j_w (by omega)⟩
theorem one_w {X : Int32} : cnt X 32 = 1 ↔ ∃ k_w, ONw X k_w := cnt_1 32
theorem ONw.uq {X : Int32} {k_w k' : Nat} (h : ONw X k_w) (h' : ONw X k') : k_w = k' := (h'.2 k_w h.1).mp ((h.2 k_w h.1).mpr rfl)
theorem ONw.eqw {X : Int32} {k_w : Nat} (h : ONw X k_w) : X = (1 : Int32) <<< (Int32.ofNat k_w &&& 31) := by
  have k0_w := h.1
  have kt : (Int32.ofNat k_w).toInt = k_w := mk_i (by omega)
  refine b32_ext (fun j_w hj => ?_)
  rw [b32_1 ⟨by omega, by omega⟩ hj, on_n (by omega)]
  by_cases c_w : j_w = k_w
  · rw [decide_eq_true c_w]; exact (h.2 j_w hj).mpr c_w
  · rw [decide_eq_false c_w]; exact eq_false_of_ne_true (fun q_w => c_w ((h.2 j_w hj).mp q_w))
theorem low_k : ∀ k_w : Nat, k_w < 16 → cnt (((1 : Int32) <<< (Int32.ofNat k_w &&& 31) &&& -((1 : Int32) <<< (Int32.ofNat k_w &&& 31))) - 1) 32 = k_w := by decide +kernel
theorem low_w {X : Int32} {k_w : Nat} {m_w : dc_M} (h : ONw X k_w) (hk : k_w < 16) : d_X9_lowest X m_w = Int32.ofNat k_w := by
  unfold d_X9_lowest
  rw [bc_cnt, h.eqw, low_k k_w hk]
theorem lst_w {X : Int32} {k_w : Nat} {m_w : dc_M} {q_w : Int32} (h : ONw X k_w) (r_w : d_X10_leastOf X m_w = some q_w) : q_w = Int32.ofNat k_w := by
  obtain ⟨k0_w, hb_w⟩ := h
  unfold d_X10_leastOf d_X10_leastOf_l2 at r_w
  have step_w : ∀ (i_w : Nat) (u_w : Int32 ⊕ Int32), i_w ≤ k_w → d_X10_leastOf_l2b X (Int32.ofNat i_w) m_w = some u_w → (i_w = k_w ∧ u_w = .inr (Int32.ofNat k_w)) ∨ (i_w < k_w ∧ u_w = .inl (Int32.ofNat (i_w + 1))) := fun i_w u_w hi_w hz => by
    have it : (Int32.ofNat i_w).toInt = i_w := mk_i (by omega)
    have t_w := b32_t (x := X) (e := Int32.ofNat i_w) ⟨by omega, by omega⟩
    rw [on_n (by omega)] at t_w
    unfold d_X10_leastOf_l2b at hz
    by_cases c_w : i_w = k_w
    · rw [if_pos (fun q_w => by have := t_w.mp q_w; rw [(hb_w i_w (by omega)).mpr c_w] at this; cases this)] at hz
      exact Or.inl ⟨c_w, by rw [← c_w]; exact (Option.some.inj hz).symm⟩
    · rw [if_neg (fun q_w => q_w (t_w.mpr (eq_false_of_ne_true (fun z_w => c_w ((hb_w i_w (by omega)).mp z_w))))), on_1 (by omega)] at hz
      exact Or.inr ⟨by omega, (Option.some.inj hz).symm⟩
  refine dc_lp_inv (s := (0 : Int32)) (fun s : Int32 => ∃ i_w : Nat, i_w ≤ k_w ∧ s = Int32.ofNat i_w) (fun q_w : Int32 => q_w = Int32.ofNat k_w) (fun s s' hI hs => ?_) (fun s u_w hI hs => ?_) ⟨0, Nat.zero_le _, rfl⟩ r_w
  · obtain ⟨i_w, i1_w, i2_w⟩ := hI
    have hs : d_X10_leastOf_l2b X s m_w = some (.inl s') := hs
    rw [i2_w] at hs
    rcases step_w i_w _ i1_w hs with ⟨-, q_w⟩ | ⟨c_w, q_w⟩
    · cases q_w
    · exact ⟨i_w + 1, by omega, Sum.inl.inj q_w⟩
  · obtain ⟨i_w, i1_w, i2_w⟩ := hI
    have hs : d_X10_leastOf_l2b X s m_w = some (.inr u_w) := hs
    rw [i2_w] at hs
    rcases step_w i_w _ i1_w hs with ⟨-, q_w⟩ | ⟨c_w, q_w⟩
    · exact Sum.inr.inj q_w
    · cases q_w
/-- the ends of the places, as the class finds them -/
theorem fe_w {a_w P_w : Nat} {c_w c' : dc_M} {q_w : Int32} (ha_w : a_w = 41 ∨ a_w = 52) (hP : (c_w.1 a_w 2).toInt = P_w) (P20 : P_w ≤ 20) (hb_w : ∀ p_w, p_w < P_w → ∀ k_w, k_w < 32 → 16 ≤ k_w → b32 (c_w.1 (a_w + 9) p_w) k_w = false ∧ b32 (c_w.1 (a_w + 10) p_w) k_w = false) (h : d_X5_findEnds 30 a_w c_w = some (q_w, c')) : (c'.2 = c_w.2 ∧ ∀ y_w, y_w ≠ 31 → y_w ≠ 32 → c'.1 y_w = c_w.1 y_w) ∧ ((q_w = 1 ∧ ∀ p_w, p_w < P_w → ∃ f_w t_w, (ONw (c_w.1 (a_w + 9) p_w) f_w ∧ c'.1 31 p_w = Int32.ofNat f_w) ∧ ONw (c_w.1 (a_w + 10) p_w) t_w ∧ c'.1 32 p_w = Int32.ofNat t_w) ∨ (q_w = 0 ∧ ∃ p_w, p_w < P_w ∧ ¬ (cnt (c_w.1 (a_w + 9) p_w) 32 = 1 ∧ cnt (c_w.1 (a_w + 10) p_w) 32 = 1))) := by
  unfold d_X5_findEnds d_X5_findEnds_l2 at h
  have step_w : ∀ (p_w : Nat) (zm : dc_M) (r_w : (Int32 × dc_M) ⊕ (Int32 × dc_M)), p_w < P_w → zm.2 = c_w.2 → (∀ y_w, y_w ≠ 31 → y_w ≠ 32 → zm.1 y_w = c_w.1 y_w) → d_X5_findEnds_l2b 30 a_w (Int32.ofNat p_w) zm = some r_w → (∃ zm' f_w t_w, r_w = .inl (Int32.ofNat (p_w + 1), zm') ∧ zm'.2 = c_w.2 ∧ (∀ y_w, y_w ≠ 31 → y_w ≠ 32 → zm'.1 y_w = c_w.1 y_w) ∧ (∀ k_w, k_w ≠ p_w → zm'.1 31 k_w = zm.1 31 k_w ∧ zm'.1 32 k_w = zm.1 32 k_w) ∧ (ONw (c_w.1 (a_w + 9) p_w) f_w ∧ zm'.1 31 p_w = Int32.ofNat f_w) ∧ ONw (c_w.1 (a_w + 10) p_w) t_w ∧ zm'.1 32 p_w = Int32.ofNat t_w) ∨ (r_w = .inr (0, zm) ∧ ¬ (cnt (c_w.1 (a_w + 9) p_w) 32 = 1 ∧ cnt (c_w.1 (a_w + 10) p_w) 32 = 1)) := fun p_w zm r_w hp z2 z1 hz => by
    have pt : (Int32.ofNat p_w).toInt = p_w := mk_i (by omega)
    have pn : (Int32.ofNat p_w).toNatClampNeg = p_w := on_n (by omega)
    have p1_w : Int32.ofNat p_w + 1 = Int32.ofNat (p_w + 1) := on_1 (by omega)
    have c9_w := cnt_le (x := c_w.1 (a_w + 9) p_w) 32
    have c10_w := cnt_le (x := c_w.1 (a_w + 10) p_w) 32
    unfold d_X5_findEnds_l2b at hz
    rw [z1 a_w (by omega) (by omega), hP, pt, if_neg (show ¬ (P_w : Int) ≤ p_w by omega), pn, z1 (a_w + 9) (by omega) (by omega), z1 (a_w + 10) (by omega) (by omega), bc_cnt, bc_cnt, mk_i (by omega), mk_i (by omega), show 30 + 1 = 31 from rfl, show 30 + 2 = 32 from rfl, p1_w] at hz
    by_cases c1_w : cnt (c_w.1 (a_w + 9) p_w) 32 = 1
    · rw [if_neg (fun q_w => q_w (by omega))] at hz
      by_cases c2_w : cnt (c_w.1 (a_w + 10) p_w) 32 = 1
      · rw [if_pos (by omega)] at hz
        obtain ⟨f_w, hf⟩ := one_w.mp c1_w
        obtain ⟨t_w, ht⟩ := one_w.mp c2_w
        have f16 : f_w < 16 := Classical.byContradiction (fun z_w => by
          have := (hb_w p_w hp f_w hf.1 (by omega)).1
          rw [(hf.2 f_w hf.1).mpr rfl] at this
          cases this)
        have t16 : t_w < 16 := Classical.byContradiction (fun z_w => by
          have := (hb_w p_w hp t_w ht.1 (by omega)).2
          rw [(ht.2 t_w ht.1).mpr rfl] at this
          cases this)
        have wz : (dc_wi zm 31 p_w (d_X9_lowest (c_w.1 (a_w + 9) p_w) zm)).1 (a_w + 10) p_w = c_w.1 (a_w + 10) p_w := by rw [wi_k (by omega), z1 (a_w + 10) (by omega) (by omega)]
        rw [wz, low_w hf f16, low_w ht t16] at hz
        refine Or.inl ⟨_, f_w, t_w, (Option.some.inj hz).symm, z2, fun y_w h1 h2 => ?_, fun k_w hk => ⟨?_, ?_⟩, ⟨hf, ?_⟩, ht, wi_s⟩
        · rw [← z1 y_w h1 h2]
          exact funext (fun k_w => (wi_k (by omega)).trans (wi_k (by omega)))
        · rw [wi_k (by omega), wi_k (by omega)]
        · rw [wi_k (by omega), wi_k (by omega)]
        · rw [wi_k (by omega), wi_s]
      · rw [if_neg (by omega)] at hz
        exact Or.inr ⟨(Option.some.inj hz).symm, fun q_w => c2_w q_w.2⟩
    · rw [if_pos (by omega)] at hz
      exact Or.inr ⟨(Option.some.inj hz).symm, fun q_w => c1_w q_w.1⟩
  have stop_w : ∀ (p_w : Nat) (zm : dc_M) (r_w : (Int32 × dc_M) ⊕ (Int32 × dc_M)), p_w ≤ P_w → ¬ p_w < P_w → (∀ y_w, y_w ≠ 31 → y_w ≠ 32 → zm.1 y_w = c_w.1 y_w) → d_X5_findEnds_l2b 30 a_w (Int32.ofNat p_w) zm = some r_w → r_w = .inr (1, zm) := fun p_w zm r_w h1 h2 z1 hz => by
    unfold d_X5_findEnds_l2b at hz
    rw [z1 a_w (by omega) (by omega), hP, mk_i (by omega), if_pos (show (P_w : Int) ≤ p_w by omega)] at hz
    exact (Option.some.inj hz).symm
  refine dc_lp_inv (s := ((0 : Int32), c_w)) (fun s : Int32 × dc_M => ∃ p_w : Nat, p_w ≤ P_w ∧ s.1 = Int32.ofNat p_w ∧ s.2.2 = c_w.2 ∧ (∀ y_w, y_w ≠ 31 → y_w ≠ 32 → s.2.1 y_w = c_w.1 y_w) ∧ ∀ p', p' < p_w → ∃ f_w t_w, (ONw (c_w.1 (a_w + 9) p') f_w ∧ s.2.1 31 p' = Int32.ofNat f_w) ∧ ONw (c_w.1 (a_w + 10) p') t_w ∧ s.2.1 32 p' = Int32.ofNat t_w) (fun u_w : Int32 × dc_M => (u_w.2.2 = c_w.2 ∧ ∀ y_w, y_w ≠ 31 → y_w ≠ 32 → u_w.2.1 y_w = c_w.1 y_w) ∧ ((u_w.1 = 1 ∧ ∀ p_w, p_w < P_w → ∃ f_w t_w, (ONw (c_w.1 (a_w + 9) p_w) f_w ∧ u_w.2.1 31 p_w = Int32.ofNat f_w) ∧ ONw (c_w.1 (a_w + 10) p_w) t_w ∧ u_w.2.1 32 p_w = Int32.ofNat t_w) ∨ (u_w.1 = 0 ∧ ∃ p_w, p_w < P_w ∧ ¬ (cnt (c_w.1 (a_w + 9) p_w) 32 = 1 ∧ cnt (c_w.1 (a_w + 10) p_w) 32 = 1)))) (fun s s' hI hs => ?_) (fun s u_w hI hs => ?_) ⟨0, Nat.zero_le _, rfl, rfl, fun _ _ _ => rfl, fun p' z_w => absurd z_w (Nat.not_lt_zero p')⟩ h
  · obtain ⟨p_w, i1_w, i2_w, i3_w, i4_w, i5_w⟩ := hI
    obtain ⟨y_w, zm⟩ := s
    have i2_w : y_w = Int32.ofNat p_w := i2_w
    have hs : d_X5_findEnds_l2b 30 a_w y_w zm = some (.inl s') := hs
    rw [i2_w] at hs
    by_cases cp_w : p_w < P_w
    · rcases step_w p_w zm _ cp_w i3_w i4_w hs with ⟨zm', f_w, t_w, r1_w, r2, r3, r4, r5_w⟩ | ⟨r1_w, -⟩
      · have r1_w := Sum.inl.inj r1_w
        rw [r1_w]
        refine ⟨p_w + 1, by omega, rfl, r2, r3, fun p' hp' => ?_⟩
        by_cases z_w : p' = p_w
        · rw [z_w]; exact ⟨f_w, t_w, r5_w⟩
        · obtain ⟨f', t', w1_w, w2_w, w3_w⟩ := i5_w p' (by omega)
          exact ⟨f', t', ⟨w1_w.1, (r4 p' z_w).1.trans w1_w.2⟩, w2_w, (r4 p' z_w).2.trans w3_w⟩
      · cases r1_w
    · have := stop_w p_w zm _ i1_w cp_w i4_w hs
      cases this
  · obtain ⟨p_w, i1_w, i2_w, i3_w, i4_w, i5_w⟩ := hI
    obtain ⟨y_w, zm⟩ := s
    have i2_w : y_w = Int32.ofNat p_w := i2_w
    have hs : d_X5_findEnds_l2b 30 a_w y_w zm = some (.inr u_w) := hs
    rw [i2_w] at hs
    by_cases cp_w : p_w < P_w
    · rcases step_w p_w zm _ cp_w i3_w i4_w hs with ⟨zm', f_w, t_w, r1_w, -⟩ | ⟨r1_w, r2⟩
      · cases r1_w
      · have r1_w := Sum.inr.inj r1_w
        rw [r1_w]
        exact ⟨⟨i3_w, i4_w⟩, Or.inr ⟨rfl, p_w, cp_w, r2⟩⟩
    · have r1_w := Sum.inr.inj (stop_w p_w zm _ i1_w cp_w i4_w hs)
      rw [r1_w]
      have pe : p_w = P_w := by omega
      rw [pe] at i5_w
      exact ⟨⟨i3_w, i4_w⟩, Or.inl ⟨rfl, i5_w⟩⟩
