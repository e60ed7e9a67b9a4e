/-! ===== when events end: the class, all times ===== -/
def EQw (P_w : Nat) (fr_w to_w : Nat → Nat) (tok : Nat → Bool) (dl B_w W_w : Nat → Int) (e_w : Nat) : Prop := (¬ TKw to_w P_w e_w ∧ W_w e_w = -1) ∨ (TKw to_w P_w e_w ∧ ∃ b_w, MXw (fun p_w => to_w p_w = e_w) (fun p_w => if tok p_w = true then B_w (fr_w p_w) else W_w (fr_w p_w)) P_w b_w ∧ W_w e_w = if b_w = -1 then -1 else b_w + dl e_w)
theorem EQw.cg {P_w : Nat} {fr_w to_w : Nat → Nat} {tok : Nat → Bool} {dl B_w B' W_w W' : Nat → Int} {e_w : Nat} (h_w : EQw P_w fr_w to_w tok dl B_w W_w e_w) (hw : W' e_w = W_w e_w) (hB_w : ∀ p_w, p_w < P_w → to_w p_w = e_w → tok p_w = true → B' (fr_w p_w) = B_w (fr_w p_w)) (hW : ∀ p_w, p_w < P_w → to_w p_w = e_w → tok p_w = false → W' (fr_w p_w) = W_w (fr_w p_w)) : EQw P_w fr_w to_w tok dl B' W' e_w := by
  rcases h_w with ⟨h1, h2⟩ | ⟨h1, b_w, h2, h3⟩
  · exact Or.inl ⟨h1, hw.trans h2⟩
  · refine Or.inr ⟨h1, b_w, h2.cg (fun p_w p1_w p2_w => ?_), hw.trans h3⟩
    have p2_w : to_w p_w = e_w := p2_w
    show (if tok p_w = true then B_w (fr_w p_w) else W_w (fr_w p_w)) = if tok p_w = true then B' (fr_w p_w) else W' (fr_w p_w)
    by_cases t_w : tok p_w = true
    · rw [if_pos t_w, if_pos t_w, hB_w p_w p1_w p2_w t_w]
    · rw [if_neg t_w, if_neg t_w, hW p_w p1_w p2_w (eq_false_of_ne_true t_w)]
/-- an order in which none waits for a_w later one -/
def ODw (E_w P_w : Nat) (fr_w to_w : Nat → Nat) (tok : Nat → Bool) (od : Nat → Nat) : Prop := (∀ j_w, j_w < E_w → od j_w < E_w) ∧ (∀ i_w j_w, i_w < E_w → j_w < E_w → od i_w = od j_w → i_w = j_w) ∧ (∀ e_w, e_w < E_w → ∃ j_w, j_w < E_w ∧ od j_w = e_w) ∧ ∀ j_w, j_w < E_w → ∀ p_w, p_w < P_w → to_w p_w = od j_w → tok p_w = false → ∃ i_w, i_w < j_w ∧ od i_w = fr_w p_w
def GDw (a_w E_w P_w : Nat) (fr_w to_w od : Nat → Nat) (c_w : dc_M) : Prop := (∀ p_w, p_w < P_w → c_w.1 31 p_w = Int32.ofNat (fr_w p_w) ∧ c_w.1 32 p_w = Int32.ofNat (to_w p_w)) ∧ c_w.1 30 7 = Int32.ofNat E_w ∧ (∀ j_w, j_w < E_w → c_w.1 33 j_w = Int32.ofNat (od j_w)) ∧ ODw E_w P_w fr_w to_w (fun p_w => b32 (c_w.1 a_w 13) p_w) od
def RFw (c_w : dc_M) : Prop := (c_w.2.2.1 30 8 = 34 ∧ c_w.2.2.1 30 9 = 35) ∨ (c_w.2.2.1 30 8 = 35 ∧ c_w.2.2.1 30 9 = 34)
theorem eo_st {a_w E_w P_w C i_w : Nat} {fr_w to_w od : Nat → Nat} {m_w zm : dc_M} {x2_w k_w x_w : Int32} {w_w b_w : Nat} {r : (Int32 × dc_M) ⊕ ((Int32 × dc_M) ⊕ (Int32 × dc_M))} (ha_w : a_w = 41 ∨ a_w = 52) (N : NTw a_w E_w P_w fr_w to_w m_w) (G : GDw a_w E_w P_w fr_w to_w od m_w) (hw : m_w.2.2.1 30 8 = w_w) (hb_w : m_w.2.2.1 30 9 = b_w) (F_w : (w_w = 34 ∧ b_w = 35) ∨ (w_w = 35 ∧ b_w = 34)) (hB_w : ∀ e_w, e_w < E_w → (m_w.1 b_w e_w).toInt ≤ C) (hC : C ≤ 100000) (hi_w : i_w < E_w) (z2 : zm.2 = m_w.2) (z1 : ∀ y_w, y_w ≠ w_w → zm.1 y_w = m_w.1 y_w) (I_w : ∀ j_w, j_w < i_w → EQw P_w fr_w to_w (fun p_w => b32 (m_w.1 a_w 13) p_w) (fun e_w => (m_w.1 (a_w + 8) e_w).toInt) (fun e_w => (m_w.1 b_w e_w).toInt) (fun e_w => (zm.1 w_w e_w).toInt) (od j_w) ∧ -1 ≤ (zm.1 w_w (od j_w)).toInt ∧ (zm.1 w_w (od j_w)).toInt ≤ C + 20 * (j_w + 1)) (h_w : d_X5_endOf_l24b 30 a_w x2_w k_w x_w (Int32.ofNat i_w) zm = some r) : ∃ zm', r = .inl (Int32.ofNat (i_w + 1), zm') ∧ zm'.2 = m_w.2 ∧ (∀ y_w, y_w ≠ w_w → zm'.1 y_w = m_w.1 y_w) ∧ ∀ j_w, j_w < i_w + 1 → EQw P_w fr_w to_w (fun p_w => b32 (m_w.1 a_w 13) p_w) (fun e_w => (m_w.1 (a_w + 8) e_w).toInt) (fun e_w => (m_w.1 b_w e_w).toInt) (fun e_w => (zm'.1 w_w e_w).toInt) (od j_w) ∧ -1 ≤ (zm'.1 w_w (od j_w)).toInt ∧ (zm'.1 w_w (od j_w)).toInt ≤ C + 20 * (j_w + 1) := by
  obtain ⟨g1, g2, g3_w, o1, o2, o3_w, o4_w⟩ := G
  have E16 := N.1.2
  have oi := o1 i_w hi_w
  have it : (Int32.ofNat i_w).toInt = i_w := mk_i (by omega)
  have in_ : (Int32.ofNat i_w).toNatClampNeg = i_w := on_n (by omega)
  have i1_w : Int32.ofNat i_w + 1 = Int32.ofNat (i_w + 1) := on_1 (by omega)
  have en : (Int32.ofNat (od i_w)).toNatClampNeg = od i_w := on_n (by omega)
  have zw : zm.2.2.1 30 8 = w_w := by rw [z2]; exact hw
  have zb : zm.2.2.1 30 9 = b_w := by rw [z2]; exact hb_w
  have zc : ∀ y_w, y_w ≠ 34 → y_w ≠ 35 → zm.1 y_w = m_w.1 y_w := fun y_w h1 h2 => z1 y_w (by omega)
  have z8 : zm.1 (a_w + 8) = m_w.1 (a_w + 8) := zc _ (by omega) (by omega)
  have zB_w : zm.1 b_w = m_w.1 b_w := z1 b_w (by omega)
  unfold d_X5_endOf_l24b at h_w
  rw [show 30 + 3 = 33 from rfl, zc 30 (by decide) (by decide), zc 33 (by decide) (by decide), g2, in_, g3_w i_w hi_w, it, mk_i (by omega), if_neg (show ¬ (E_w : Int) ≤ i_w by omega), en, zw, z8, i1_w] at h_w
  have ne_w : ∀ j_w, j_w < E_w → j_w ≠ i_w → od j_w ≠ od i_w := fun j_w hj hn q_w => hn (o2 j_w i_w hj hi_w q_w)
  have fin_w : ∀ v_w : Int32, some (Sum.inl (Int32.ofNat (i_w + 1), dc_wi zm w_w (od i_w) v_w)) = some r → ((¬ TKw to_w P_w (od i_w) ∧ v_w.toInt = -1) ∨ (TKw to_w P_w (od i_w) ∧ ∃ b', MXw (fun p_w => to_w p_w = od i_w) (fun p_w => if b32 (m_w.1 a_w 13) p_w = true then (m_w.1 b_w (fr_w p_w)).toInt else (zm.1 w_w (fr_w p_w)).toInt) P_w b' ∧ v_w.toInt = if b' = -1 then -1 else b' + (m_w.1 (a_w + 8) (od i_w)).toInt)) → -1 ≤ v_w.toInt → v_w.toInt ≤ C + 20 * (i_w + 1) → ∃ zm', r = .inl (Int32.ofNat (i_w + 1), zm') ∧ zm'.2 = m_w.2 ∧ (∀ y_w, y_w ≠ w_w → zm'.1 y_w = m_w.1 y_w) ∧ ∀ j_w, j_w < i_w + 1 → EQw P_w fr_w to_w (fun p_w => b32 (m_w.1 a_w 13) p_w) (fun e_w => (m_w.1 (a_w + 8) e_w).toInt) (fun e_w => (m_w.1 b_w e_w).toInt) (fun e_w => (zm'.1 w_w e_w).toInt) (od j_w) ∧ -1 ≤ (zm'.1 w_w (od j_w)).toInt ∧ (zm'.1 w_w (od j_w)).toInt ≤ C + 20 * (j_w + 1) := fun v_w hr hv v1_w v2 => by
    have cell_w : ∀ e_w, e_w ≠ od i_w → (dc_wi zm w_w (od i_w) v_w).1 w_w e_w = zm.1 w_w e_w := fun e_w he => wi_k (fun q_w => he q_w.2)
    have own_w : (dc_wi zm w_w (od i_w) v_w).1 w_w (od i_w) = v_w := wi_s
    refine ⟨_, (Option.some.inj hr).symm, z2, fun y_w hy => ?_, fun j_w hj => ?_⟩
    · rw [← z1 y_w hy]
      exact funext (fun q_w => wi_k (fun q_w => hy q_w.1))
    · have old_w : ∀ p_w, p_w < P_w → to_w p_w = od j_w → b32 (m_w.1 a_w 13) p_w = false → (dc_wi zm w_w (od i_w) v_w).1 w_w (fr_w p_w) = zm.1 w_w (fr_w p_w) := fun p_w p1_w p2_w p3_w => by
        obtain ⟨i', q1_w, q2_w⟩ := o4_w j_w (by omega) p_w p1_w p2_w p3_w
        rw [← q2_w]
        exact cell_w _ (ne_w i' (by omega) (by omega))
      by_cases c_w : j_w = i_w
      · subst c_w
        refine ⟨?_, by rw [own_w]; exact v1_w, by rw [own_w]; exact v2⟩
        rcases hv with ⟨h1, h2⟩ | ⟨h1, b', h2, h3⟩
        · exact Or.inl ⟨h1, by show ((dc_wi zm w_w (od j_w) v_w).1 w_w (od j_w)).toInt = -1; rw [own_w]; exact h2⟩
        · refine Or.inr ⟨h1, b', h2.cg (fun p_w p1_w p2_w => ?_), by show ((dc_wi zm w_w (od j_w) v_w).1 w_w (od j_w)).toInt = _; rw [own_w]; exact h3⟩
          have p2_w : to_w p_w = od j_w := p2_w
          show (if b32 (m_w.1 a_w 13) p_w = true then (m_w.1 b_w (fr_w p_w)).toInt else (zm.1 w_w (fr_w p_w)).toInt) = if b32 (m_w.1 a_w 13) p_w = true then (m_w.1 b_w (fr_w p_w)).toInt else ((dc_wi zm w_w (od j_w) v_w).1 w_w (fr_w p_w)).toInt
          by_cases t_w : b32 (m_w.1 a_w 13) p_w = true
          · rw [if_pos t_w, if_pos t_w]
          · rw [if_neg t_w, if_neg t_w, old_w p_w p1_w p2_w (eq_false_of_ne_true t_w)]
      · have hj : j_w < i_w := by omega
        obtain ⟨y1, y2, y3⟩ := I_w j_w hj
        have cj := cell_w (od j_w) (ne_w j_w (by omega) c_w)
        refine ⟨y1.cg (by show ((dc_wi zm w_w (od i_w) v_w).1 w_w (od j_w)).toInt = _; rw [cj]) (fun _ _ _ _ => rfl) (fun p_w p1_w p2_w p3_w => ?_), by rw [cj]; exact y2, by rw [cj]; exact y3⟩
        show ((dc_wi zm w_w (od i_w) v_w).1 w_w (fr_w p_w)).toInt = (zm.1 w_w (fr_w p_w)).toInt
        rw [old_w p_w p1_w p2_w p3_w]
  cases hq : d_X5_beginOf 30 a_w (Int32.ofNat (od i_w)) zm with
  | none => rw [hq] at h_w; cases h_w
  | some q_w =>
    rw [hq, Option.bind_some] at h_w
    have bg := bg_w (N.eqw (fun y_w h1 h2 => zc y_w (by omega) (by omega))) (fun p_w hp => by rw [zc 31 (by decide) (by decide)]; exact (g1 p_w hp).1) oi hq
    rw [zw, zb, zc a_w (by omega) (by omega), zB_w] at bg
    rcases bg with ⟨t_w, e_w⟩ | ⟨t_w, M_w⟩
    · rw [e_w, if_neg (show ¬ ¬ (-1 : Int32).toInt = -1 from fun q_w => q_w rfl)] at h_w
      have m1_w : (-1 : Int32).toInt = -1 := rfl
      exact fin_w _ h_w (Or.inl ⟨t_w, rfl⟩) (by rw [m1_w]; omega) (by rw [m1_w]; omega)
    · by_cases qm : q_w.toInt = -1
      · rw [if_neg (fun z_w => z_w qm)] at h_w
        have m1_w : (-1 : Int32).toInt = -1 := rfl
        exact fin_w _ h_w (Or.inr ⟨t_w, -1, by rw [← qm]; exact M_w, by rw [if_pos rfl]; rfl⟩) (by rw [m1_w]; omega) (by rw [m1_w]; omega)
      · rw [if_pos qm] at h_w
        have dl := N.2.2.2.2 (od i_w) oi
        have bb : 0 ≤ q_w.toInt ∧ q_w.toInt ≤ C + 20 * i_w := by
          rcases M_w with ⟨z_w, -⟩ | ⟨z1, z2, z3⟩
          · exact absurd z_w qm
          · refine ⟨z1, ?_⟩
            rcases z3 with z_w | ⟨p_w, p1_w, p2_w, p3_w⟩
            · omega
            · have p2_w : to_w p_w = od i_w := p2_w
              have p3_w : (if b32 (m_w.1 a_w 13) p_w = true then (m_w.1 b_w (fr_w p_w)).toInt else (zm.1 w_w (fr_w p_w)).toInt) = q_w.toInt := p3_w
              by_cases tk : b32 (m_w.1 a_w 13) p_w = true
              · rw [if_pos tk] at p3_w
                have := hB_w (fr_w p_w) (N.2.2.1 p_w p1_w).1
                omega
              · rw [if_neg tk] at p3_w
                obtain ⟨i', q1_w, q2_w⟩ := o4_w i_w hi_w p_w p1_w p2_w (eq_false_of_ne_true tk)
                have := (I_w i' q1_w).2.2
                rw [q2_w] at this
                omega
        have sum_w : (q_w + m_w.1 (a_w + 8) (od i_w)).toInt = q_w.toInt + (m_w.1 (a_w + 8) (od i_w)).toInt := by rw [Int32.toInt_add, sx_bm (by omega) (by omega)]
        refine fin_w _ h_w (Or.inr ⟨t_w, q_w.toInt, M_w, by rw [if_neg qm]; exact sum_w⟩) (by rw [sum_w]; omega) (by rw [sum_w]; omega)
theorem eo_in {a_w E_w P_w C : Nat} {fr_w to_w od : Nat → Nat} {m_w : dc_M} {x2_w k_w x_w : Int32} {w_w b_w : Nat} {u_w : (Int32 × dc_M) ⊕ (Int32 × dc_M)} (ha_w : a_w = 41 ∨ a_w = 52) (N : NTw a_w E_w P_w fr_w to_w m_w) (G : GDw a_w E_w P_w fr_w to_w od m_w) (hw : m_w.2.2.1 30 8 = w_w) (hb_w : m_w.2.2.1 30 9 = b_w) (F_w : (w_w = 34 ∧ b_w = 35) ∨ (w_w = 35 ∧ b_w = 34)) (hB_w : ∀ e_w, e_w < E_w → (m_w.1 b_w e_w).toInt ≤ C) (hC : C ≤ 100000) (h_w : d_X5_endOf_l24 30 a_w x2_w k_w x_w 0 m_w = some u_w) : ∃ m', u_w = .inl (x_w + 1, m') ∧ m'.2 = m_w.2 ∧ (∀ y_w, y_w ≠ w_w → m'.1 y_w = m_w.1 y_w) ∧ ∀ e_w, e_w < E_w → EQw P_w fr_w to_w (fun p_w => b32 (m_w.1 a_w 13) p_w) (fun e_w => (m_w.1 (a_w + 8) e_w).toInt) (fun e_w => (m_w.1 b_w e_w).toInt) (fun e_w => (m'.1 w_w e_w).toInt) e_w ∧ -1 ≤ (m'.1 w_w e_w).toInt ∧ (m'.1 w_w e_w).toInt ≤ C + 320 := by
  have E16 := N.1.2
  have g2 := G.2.1
  unfold d_X5_endOf_l24 at h_w
  have stop_w : ∀ (i_w : Nat) (zm : dc_M) (r : (Int32 × dc_M) ⊕ ((Int32 × dc_M) ⊕ (Int32 × dc_M))), i_w ≤ E_w → ¬ i_w < E_w → (∀ y_w, y_w ≠ w_w → zm.1 y_w = m_w.1 y_w) → d_X5_endOf_l24b 30 a_w x2_w k_w x_w (Int32.ofNat i_w) zm = some r → r = .inr (.inl (x_w + 1, zm)) := fun i_w zm r i1_w i2_w z1 hz => by
    unfold d_X5_endOf_l24b at hz
    rw [z1 30 (by omega), g2, mk_i (by omega), mk_i (by omega), if_pos (show (E_w : Int) ≤ i_w by omega)] at hz
    exact (Option.some.inj hz).symm
  refine dc_lp_inv (s := ((0 : Int32), m_w)) (fun z_w : Int32 × dc_M => ∃ i_w : Nat, i_w ≤ E_w ∧ z_w.1 = Int32.ofNat i_w ∧ z_w.2.2 = m_w.2 ∧ (∀ y_w, y_w ≠ w_w → z_w.2.1 y_w = m_w.1 y_w) ∧ ∀ j_w, j_w < i_w → EQw P_w fr_w to_w (fun p_w => b32 (m_w.1 a_w 13) p_w) (fun e_w => (m_w.1 (a_w + 8) e_w).toInt) (fun e_w => (m_w.1 b_w e_w).toInt) (fun e_w => (z_w.2.1 w_w e_w).toInt) (od j_w) ∧ -1 ≤ (z_w.2.1 w_w (od j_w)).toInt ∧ (z_w.2.1 w_w (od j_w)).toInt ≤ C + 20 * (j_w + 1)) (fun u_w : (Int32 × dc_M) ⊕ (Int32 × dc_M) => ∃ m', u_w = .inl (x_w + 1, m') ∧ m'.2 = m_w.2 ∧ (∀ y_w, y_w ≠ w_w → m'.1 y_w = m_w.1 y_w) ∧ ∀ e_w, e_w < E_w → EQw P_w fr_w to_w (fun p_w => b32 (m_w.1 a_w 13) p_w) (fun e_w => (m_w.1 (a_w + 8) e_w).toInt) (fun e_w => (m_w.1 b_w e_w).toInt) (fun e_w => (m'.1 w_w e_w).toInt) e_w ∧ -1 ≤ (m'.1 w_w e_w).toInt ∧ (m'.1 w_w e_w).toInt ≤ C + 320) (fun s s' hI hz => ?_) (fun s u_w hI hz => ?_) ⟨0, Nat.zero_le _, rfl, rfl, fun _ _ => rfl, fun j_w hj => absurd hj (Nat.not_lt_zero j_w)⟩ h_w
  · obtain ⟨i_w, i1_w, i2_w, i3_w, i4_w, i5_w⟩ := hI
    obtain ⟨y_w, zm⟩ := s
    have i2_w : y_w = Int32.ofNat i_w := i2_w
    have hz : d_X5_endOf_l24b 30 a_w x2_w k_w x_w y_w zm = some (.inl s') := hz
    rw [i2_w] at hz
    by_cases c_w : i_w < E_w
    · obtain ⟨zm', r1_w, r2, r3, r4⟩ := eo_st ha_w N G hw hb_w F_w hB_w hC c_w i3_w i4_w i5_w hz
      have r1_w := Sum.inl.inj r1_w
      rw [r1_w]
      exact ⟨i_w + 1, by omega, rfl, r2, r3, r4⟩
    · have := stop_w i_w zm _ i1_w c_w i4_w hz
      cases this
  · obtain ⟨i_w, i1_w, i2_w, i3_w, i4_w, i5_w⟩ := hI
    obtain ⟨y_w, zm⟩ := s
    have i2_w : y_w = Int32.ofNat i_w := i2_w
    have hz : d_X5_endOf_l24b 30 a_w x2_w k_w x_w y_w zm = some (.inr u_w) := hz
    rw [i2_w] at hz
    by_cases c_w : i_w < E_w
    · obtain ⟨zm', r1_w, -⟩ := eo_st ha_w N G hw hb_w F_w hB_w hC c_w i3_w i4_w i5_w hz
      cases r1_w
    · have r := Sum.inr.inj (stop_w i_w zm _ i1_w c_w i4_w hz)
      refine ⟨zm, r, i3_w, i4_w, fun e_w he => ?_⟩
      obtain ⟨j_w, j1, j2_w⟩ := G.2.2.2.2.2.1 e_w he
      have q_w := i5_w j_w (by omega)
      rw [j2_w] at q_w
      exact ⟨q_w.1, q_w.2.1, Int.le_trans q_w.2.2 (by omega)⟩
def FRm (c_w c' : dc_M) : Prop := (∀ y_w, y_w ≠ 34 → y_w ≠ 35 → c'.1 y_w = c_w.1 y_w) ∧ c'.2.1 = c_w.2.1 ∧ c'.2.2.2 = c_w.2.2.2 ∧ RFw c' ∧ ∀ y_w f_w, ¬ (y_w = 30 ∧ (f_w = 8 ∨ f_w = 9)) → c'.2.2.1 y_w f_w = c_w.2.2.1 y_w f_w
theorem GDw.eqw {a_w E_w P_w : Nat} {fr_w to_w od : Nat → Nat} {c_w c' : dc_M} (G : GDw a_w E_w P_w fr_w to_w od c_w) (h30 : c'.1 30 7 = c_w.1 30 7) (h31 : c'.1 31 = c_w.1 31) (h32 : c'.1 32 = c_w.1 32) (h33 : c'.1 33 = c_w.1 33) (h13 : c'.1 a_w 13 = c_w.1 a_w 13) : GDw a_w E_w P_w fr_w to_w od c' := by
  unfold GDw
  rw [h30, h31, h32, h33, h13]
  exact G
/-- the ends of K_w times, each from those before -/
def ENw (E_w P_w K_w : Nat) (fr_w to_w : Nat → Nat) (tok : Nat → Bool) (dl : Nat → Int) (V : Nat → Nat → Int) : Prop := (∀ e_w, V 0 e_w = 0) ∧ (∀ x_w, 1 ≤ x_w → x_w ≤ K_w → ∀ e_w, e_w < E_w → EQw P_w fr_w to_w tok dl (V (x_w - 1)) (V x_w) e_w) ∧ ∀ x_w, x_w ≤ K_w → ∀ e_w, e_w < E_w → -1 ≤ V x_w e_w ∧ V x_w e_w ≤ 320 * x_w
theorem endOf_w {a_w E_w P_w K_w e_w : Nat} {fr_w to_w od : Nat → Nat} {c_w c' : dc_M} {k_w v_w : Int32} (ha_w : a_w = 41 ∨ a_w = 52) (N : NTw a_w E_w P_w fr_w to_w c_w) (G : GDw a_w E_w P_w fr_w to_w od c_w) (F_w : RFw c_w) (l34 : (c_w.2.2.2 34).2 = 16) (l35 : (c_w.2.2.2 35).2 = 16) (hk : k_w.toInt = K_w) (K1 : 1 ≤ K_w) (K50 : K_w ≤ 50) (he : e_w < E_w) (h_w : d_X5_endOf 30 a_w (Int32.ofNat e_w) k_w c_w = some (v_w, c')) : (∃ V, ENw E_w P_w K_w fr_w to_w (fun p_w => b32 (c_w.1 a_w 13) p_w) (fun e_w => (c_w.1 (a_w + 8) e_w).toInt) V ∧ v_w.toInt = if V K_w e_w = -1 then -4 else V K_w e_w) ∧ FRm c_w c' := by
  have E16 := N.1.2
  have en : (Int32.ofNat e_w).toNatClampNeg = e_w := on_n (by omega)
  unfold d_X5_endOf at h_w
  cases hq : d_J7_fill_53178 (c_w.2.2.1 30 8) 0 c_w with
  | none => rw [hq] at h_w; cases h_w
  | some q_w =>
    rw [hq, Option.bind_some] at h_w
    have lw : (c_w.2.2.2 (c_w.2.2.1 30 8)).2 = 16 := by
      rcases F_w with ⟨f1_w, -⟩ | ⟨f1_w, -⟩
      · rw [f1_w]; exact l34
      · rw [f1_w]; exact l35
    obtain ⟨q1_w, q2_w, q3_w⟩ := fi_run lw (by decide) hq
    have w35 : ∀ y_w, y_w ≠ 34 → y_w ≠ 35 → y_w ≠ c_w.2.2.1 30 8 := fun y_w h1 h2 => by
      rcases F_w with ⟨f1_w, -⟩ | ⟨f1_w, -⟩ <;> omega
    unfold d_X5_endOf_l11 at h_w
    have step_w : ∀ (x_w : Nat) (zm : dc_M) (r : (Int32 × dc_M) ⊕ (Int32 × dc_M)) (V : Nat → Nat → Int), 1 ≤ x_w → x_w ≤ K_w → ENw E_w P_w (x_w - 1) fr_w to_w (fun p_w => b32 (c_w.1 a_w 13) p_w) (fun e_w => (c_w.1 (a_w + 8) e_w).toInt) V → (∀ e_w, e_w < E_w → (zm.1 (zm.2.2.1 30 8) e_w).toInt = V (x_w - 1) e_w) → FRm c_w zm → d_X5_endOf_l11b 30 a_w (Int32.ofNat e_w) k_w (Int32.ofNat x_w) zm = some r → ∃ zm' V', r = .inl (Int32.ofNat (x_w + 1), zm') ∧ ENw E_w P_w x_w fr_w to_w (fun p_w => b32 (c_w.1 a_w 13) p_w) (fun e_w => (c_w.1 (a_w + 8) e_w).toInt) V' ∧ (∀ e_w, e_w < E_w → (zm'.1 (zm'.2.2.1 30 8) e_w).toInt = V' x_w e_w) ∧ FRm c_w zm' := fun x_w zm r V x1_w xK EN_w hV FR hz => by
      obtain ⟨f1_w, f2_w, f3_w, f4_w, f5_w⟩ := FR
      unfold d_X5_endOf_l11b at hz
      rw [hk, mk_i (show x_w < 2147483648 by omega), if_neg (show ¬ (K_w : Int) < x_w by omega), dc_let_eq] at hz
      unfold d_X5_turnWays at hz
      generalize hT : dc_wr (dc_wr zm 30 9 (zm.2.2.1 30 8)) 30 8 (zm.2.2.1 30 9) = T at hz
      have t1_w : T.1 = zm.1 := by rw [← hT]; rfl
      have t2_w : T.2.1 = zm.2.1 := by rw [← hT]; rfl
      have t3_w : T.2.2.2 = zm.2.2.2 := by rw [← hT]; rfl
      have t8 : T.2.2.1 30 8 = zm.2.2.1 30 9 := by rw [← hT]; rfl
      have t9 : T.2.2.1 30 9 = zm.2.2.1 30 8 := by rw [← hT]; rfl
      have tr_w : ∀ y_w f_w, ¬ (y_w = 30 ∧ (f_w = 8 ∨ f_w = 9)) → T.2.2.1 y_w f_w = zm.2.2.1 y_w f_w := fun y_w f_w n_w => by
        rw [← hT]
        show (if y_w = 30 ∧ f_w = 8 then _ else if y_w = 30 ∧ f_w = 9 then _ else zm.2.2.1 y_w f_w) = _
        rw [if_neg (by omega), if_neg (by omega)]
      have TF : (T.2.2.1 30 8 = 34 ∧ T.2.2.1 30 9 = 35) ∨ (T.2.2.1 30 8 = 35 ∧ T.2.2.1 30 9 = 34) := by
        rw [t8, t9]
        rcases f4_w with ⟨y1, y2⟩ | ⟨y1, y2⟩
        · exact Or.inr ⟨y2, y1⟩
        · exact Or.inl ⟨y2, y1⟩
      have cc : ∀ y_w, y_w ≠ 34 → y_w ≠ 35 → T.1 y_w = c_w.1 y_w := fun y_w h1 h2 => by rw [t1_w]; exact f1_w y_w h1 h2
      have NT_w := N.eqw (c' := T) (fun y_w h1 h2 => cc y_w (by omega) (by omega))
      have GT_w := G.eqw (c' := T) (by rw [cc 30 (by decide) (by decide)]) (cc 31 (by decide) (by decide)) (cc 32 (by decide) (by decide)) (cc 33 (by decide) (by decide)) (by rw [cc a_w (by omega) (by omega)])
      obtain ⟨m', r1_w, r2, r3, r4⟩ := eo_in (C := 320 * (x_w - 1)) ha_w NT_w GT_w rfl rfl TF (fun e_w he => by rw [t9, t1_w, hV e_w he]; have := (EN_w.2.2 (x_w - 1) (Nat.le_refl _) e_w he).2; omega) (by omega) hz
      rw [cc a_w (by omega) (by omega), cc (a_w + 8) (by omega) (by omega)] at r4
      have m8_w : m'.2.2.1 30 8 = T.2.2.1 30 8 := by rw [r2]
      have m9_w : m'.2.2.1 30 9 = T.2.2.1 30 9 := by rw [r2]
      obtain ⟨e1_w, e2_w, e3_w⟩ := EN_w
      obtain ⟨V', vx, vy⟩ : ∃ V' : Nat → Nat → Int, V' x_w = (fun e_w => (m'.1 (m'.2.2.1 30 8) e_w).toInt) ∧ ∀ y_w, y_w ≠ x_w → V' y_w = V y_w := ⟨fun y_w => if y_w = x_w then fun e_w => (m'.1 (m'.2.2.1 30 8) e_w).toInt else V y_w, if_pos rfl, fun y_w hy => if_neg hy⟩
      refine ⟨m', V', ?_, ⟨fun e_w => ?_, fun y_w y1 y2 e_w he => ?_, fun y_w y2 e_w he => ?_⟩, fun e_w he => ?_, fun y_w h1 h2 => ?_, ?_, ?_, ?_, fun y_w f_w n_w => ?_⟩
      · rw [r1_w, on_1 (by omega)]
      · rw [vy 0 (by omega)]
        exact e1_w e_w
      · by_cases c1_w : y_w = x_w
        · rw [c1_w, vx, vy (x_w - 1) (by omega), m8_w]
          have r := (r4 e_w he).1
          refine r.cg rfl (fun p_w p1_w p2_w p3_w => ?_) (fun p_w p1_w p2_w p3_w => rfl)
          show V (x_w - 1) (fr_w p_w) = (T.1 (T.2.2.1 30 9) (fr_w p_w)).toInt
          rw [t9, t1_w]
          exact (hV (fr_w p_w) (N.2.2.1 p_w p1_w).1).symm
        · rw [vy y_w c1_w, vy (y_w - 1) (by omega)]
          exact e2_w y_w y1 (by omega) e_w he
      · by_cases c1_w : y_w = x_w
        · rw [c1_w, vx, m8_w]
          have r := (r4 e_w he).2
          exact ⟨r.1, Int.le_trans r.2 (by omega)⟩
        · rw [vy y_w c1_w]
          exact e3_w y_w (by omega) e_w he
      · rw [vx]
      · rw [r3 y_w (by omega)]
        exact cc y_w h1 h2
      · rw [r2]; exact t2_w.trans f2_w
      · rw [r2]; exact t3_w.trans f3_w
      · unfold RFw
        rw [m8_w, m9_w]
        exact TF
      · rw [r2, tr_w y_w f_w n_w]
        exact f5_w y_w f_w n_w
    refine dc_lp_inv (s := ((1 : Int32), q_w)) (fun s : Int32 × dc_M => ∃ x_w V, 1 ≤ x_w ∧ x_w ≤ K_w + 1 ∧ s.1 = Int32.ofNat x_w ∧ ENw E_w P_w (x_w - 1) fr_w to_w (fun p_w => b32 (c_w.1 a_w 13) p_w) (fun e_w => (c_w.1 (a_w + 8) e_w).toInt) V ∧ (∀ e_w, e_w < E_w → (s.2.1 (s.2.2.2.1 30 8) e_w).toInt = V (x_w - 1) e_w) ∧ FRm c_w s.2) (fun u_w : Int32 × dc_M => (∃ V, ENw E_w P_w K_w fr_w to_w (fun p_w => b32 (c_w.1 a_w 13) p_w) (fun e_w => (c_w.1 (a_w + 8) e_w).toInt) V ∧ u_w.1.toInt = if V K_w e_w = -1 then -4 else V K_w e_w) ∧ FRm c_w u_w.2) (fun s s' hI hs => ?_) (fun s u_w hI hs => ?_) ?_ h_w
    · obtain ⟨x_w, V, x1_w, x2_w, x3, x4_w, x5_w, x6⟩ := hI
      obtain ⟨y_w, zm⟩ := s
      have x3 : y_w = Int32.ofNat x_w := x3
      have hs : d_X5_endOf_l11b 30 a_w (Int32.ofNat e_w) k_w y_w zm = some (.inl s') := hs
      rw [x3] at hs
      by_cases c1_w : x_w ≤ K_w
      · obtain ⟨zm', V', r1_w, r2, r3, r4⟩ := step_w x_w zm _ V x1_w c1_w x4_w x5_w x6 hs
        have r1_w := Sum.inl.inj r1_w
        rw [r1_w]
        exact ⟨x_w + 1, V', by omega, by omega, rfl, r2, r3, r4⟩
      · unfold d_X5_endOf_l11b at hs
        rw [hk, mk_i (show x_w < 2147483648 by omega), if_pos (show (K_w : Int) < x_w by omega)] at hs
        generalize d_X5_endOf_b90 30 (Int32.ofNat e_w) zm = o at hs
        cases o with
        | none => cases hs
        | some o => cases hs
    · obtain ⟨x_w, V, x1_w, x2_w, x3, x4_w, x5_w, x6⟩ := hI
      obtain ⟨y_w, zm⟩ := s
      have x3 : y_w = Int32.ofNat x_w := x3
      have x5_w : ∀ e_w, e_w < E_w → (zm.1 (zm.2.2.1 30 8) e_w).toInt = V (x_w - 1) e_w := x5_w
      have hs : d_X5_endOf_l11b 30 a_w (Int32.ofNat e_w) k_w y_w zm = some (.inr u_w) := hs
      rw [x3] at hs
      by_cases c1_w : x_w ≤ K_w
      · obtain ⟨zm', V', r1_w, -⟩ := step_w x_w zm _ V x1_w c1_w x4_w x5_w x6 hs
        cases r1_w
      · unfold d_X5_endOf_l11b at hs
        rw [hk, mk_i (show x_w < 2147483648 by omega), if_pos (show (K_w : Int) < x_w by omega)] at hs
        unfold d_X5_endOf_b90 at hs
        rw [en] at hs
        have xe : x_w - 1 = K_w := by omega
        rw [xe] at x4_w x5_w
        have ve := x5_w e_w he
        by_cases c2_w : (zm.1 (zm.2.2.1 30 8) e_w).toInt = -1
        · rw [if_neg (fun z_w => z_w c2_w)] at hs
          have hs := Sum.inr.inj (Option.some.inj hs)
          rw [← hs]
          refine ⟨⟨V, x4_w, ?_⟩, x6⟩
          rw [← ve, if_pos c2_w]
          rfl
        · rw [if_pos c2_w] at hs
          have hs := Sum.inr.inj (Option.some.inj hs)
          rw [← hs]
          refine ⟨⟨V, x4_w, ?_⟩, x6⟩
          rw [← ve, if_neg c2_w]
    · have q8_w : q_w.2.2.1 30 8 = c_w.2.2.1 30 8 := by rw [q1_w]
      have q9_w : q_w.2.2.1 30 9 = c_w.2.2.1 30 9 := by rw [q1_w]
      refine ⟨1, fun _ _ => 0, Nat.le_refl _, by omega, rfl, ⟨fun _ => rfl, fun x_w x1_w x2_w => by omega, fun x_w x2_w e_w he => ⟨show (-1 : Int) ≤ 0 by decide, by show (0 : Int) ≤ _; omega⟩⟩, fun e_w he => ?_, fun y_w h1 h2 => q2_w y_w (w35 y_w h1 h2), by rw [q1_w], by rw [q1_w], ?_, fun y_w f_w n_w => by rw [q1_w]⟩
      · show (q_w.1 (q_w.2.2.1 30 8) e_w).toInt = 0
        rw [q8_w, q3_w e_w (by omega)]
        rfl
      · unfold RFw
        rw [q8_w, q9_w]
        exact F_w
