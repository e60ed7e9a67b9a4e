/-! ===== quarrels: the class's chains ===== -/
def enw : Option Nat → Int32
  | none => -4
  | some t_w => Int32.ofNat t_w
/-- the first_w of the pairs that are so -/
def FPw (X_w : Nat → Nat → Prop) (P_w : Nat → Nat → Bool) (lo_w gr cn : Int32) : Prop := (cn.toInt = 0 ∧ lo_w = -4 ∧ gr = -4 ∧ ∀ t_w u_w, X_w t_w u_w → P_w t_w u_w = false) ∨ (0 < cn.toInt ∧ ∃ a_w b_w : Nat, (a_w < 200 ∧ b_w < 200) ∧ lo_w = Int32.ofNat a_w ∧ gr = Int32.ofNat b_w ∧ X_w a_w b_w ∧ P_w a_w b_w = true ∧ ∀ t_w u_w, X_w t_w u_w → P_w t_w u_w = true → a_w < t_w ∨ (a_w = t_w ∧ b_w ≤ u_w))
theorem FPw.iff {X_w Y : Nat → Nat → Prop} {P_w : Nat → Nat → Bool} {lo_w gr cn : Int32} (h_w : FPw X_w P_w lo_w gr cn) (e_w : ∀ t_w u_w, X_w t_w u_w ↔ Y t_w u_w) : FPw Y P_w lo_w gr cn := by
  rcases h_w with ⟨h1, h2, h3, h4⟩ | ⟨h1, a_w, b_w, h2, h3, h4, h5, h6, h7⟩
  · exact Or.inl ⟨h1, h2, h3, fun t_w u_w hy => h4 t_w u_w ((e_w t_w u_w).mpr hy)⟩
  · exact Or.inr ⟨h1, a_w, b_w, h2, h3, h4, (e_w a_w b_w).mp h5, h6, fun t_w u_w hy => h7 t_w u_w ((e_w t_w u_w).mpr hy)⟩
/-- a_w pair that isn't so changes nothing -/
theorem FPw.sk {X_w Y : Nat → Nat → Prop} {P_w : Nat → Nat → Bool} {lo_w gr cn : Int32} (h_w : FPw X_w P_w lo_w gr cn) (e_w : ∀ t_w u_w, Y t_w u_w → X_w t_w u_w ∨ P_w t_w u_w = false) (e2_w : ∀ t_w u_w, X_w t_w u_w → Y t_w u_w) : FPw Y P_w lo_w gr cn := by
  rcases h_w with ⟨h1, h2, h3, h4⟩ | ⟨h1, a_w, b_w, h2, h3, h4, h5, h6, h7⟩
  · exact Or.inl ⟨h1, h2, h3, fun t_w u_w hy => (e_w t_w u_w hy).elim (h4 t_w u_w) id⟩
  · refine Or.inr ⟨h1, a_w, b_w, h2, h3, h4, e2_w a_w b_w h5, h6, fun t_w u_w hy hp => ?_⟩
    rcases e_w t_w u_w hy with hx | hx
    · exact h7 t_w u_w hx hp
    · rw [hx] at hp; cases hp
/-- what the chains say of the states below s_w -/
def HLw (lv : Nat → Nat) (s_w : Nat) (hd_w ln : Nat → Int32) : Prop := (∀ l, l < 64 → hd_w l = enw (hdw lv s_w l)) ∧ ∀ t_w, t_w < s_w → ln t_w = enw (hdw lv t_w (lv t_w))
theorem HLw.up {lv : Nat → Nat} {s_w : Nat} {hd_w ln hd' ln' : Nat → Int32} (h_w : HLw lv s_w hd_w ln) (hl : lv s_w < 64) (e1_w : ∀ l, hd' l = if l = lv s_w then Int32.ofNat s_w else hd_w l) (e2_w : ∀ t_w, ln' t_w = if t_w = s_w then hd_w (lv s_w) else ln t_w) : HLw lv (s_w + 1) hd' ln' := by
  refine ⟨fun l h1 => ?_, fun t_w ht => ?_⟩
  · rw [e1_w]
    unfold hdw
    by_cases hz : l = lv s_w
    · rw [if_pos hz, if_pos hz.symm]
      rfl
    · rw [if_neg hz, if_neg (fun q_w => hz q_w.symm)]
      exact h_w.1 l h1
  · rw [e2_w]
    by_cases hz : t_w = s_w
    · rw [if_pos hz, hz]
      exact h_w.1 _ hl
    · rw [if_neg hz]
      exact h_w.2 t_w (by omega)
/-- what is read: levels and excited wires of states, wires that are made_w -/
def smv (lv : Nat → Nat) (s_w t_w : Nat) : Bool := decide (lv t_w = lv s_w)
def quv (lv : Nat → Nat) (E_w : Nat → Int32) (made_w : Int32) (t_w s_w : Nat) : Bool := decide (lv t_w = lv s_w) && decide (((E_w s_w ^^^ E_w t_w) &&& made_w).toInt ≠ 0)
/-- while the chain of state s_w is gone through, down to k_w -/
def QIw (lv : Nat → Nat) (E_w : Nat → Int32) (made_w : Int32) (s_w k_w : Nat) (m_w : dc_M) : Prop := (m_w.1 12 0).toInt + ctw (fun t_w => decide (lv t_w = lv s_w)) k_w = smw (fun u_w => ctw (fun t_w => decide (lv t_w = lv u_w)) u_w) s_w + ctw (fun t_w => decide (lv t_w = lv s_w)) s_w ∧ (m_w.1 12 1).toInt + ctw (fun t_w => quv lv E_w made_w t_w s_w) k_w = smw (fun u_w => ctw (fun t_w => quv lv E_w made_w t_w u_w) u_w) s_w + ctw (fun t_w => quv lv E_w made_w t_w s_w) s_w ∧ FPw (fun t_w u_w => t_w < u_w ∧ (u_w < s_w ∨ (u_w = s_w ∧ k_w ≤ t_w))) (quv lv E_w made_w) (m_w.1 12 2) (m_w.1 12 3) (m_w.1 12 1)
/-- of all states below s_w -/
def QSw (lv : Nat → Nat) (E_w : Nat → Int32) (made_w : Int32) (s_w : Nat) (m_w : dc_M) : Prop := (m_w.1 12 0).toInt = smw (fun u_w => ctw (fun t_w => decide (lv t_w = lv u_w)) u_w) s_w ∧ (m_w.1 12 1).toInt = smw (fun u_w => ctw (fun t_w => quv lv E_w made_w t_w u_w) u_w) s_w ∧ FPw (fun t_w u_w => t_w < u_w ∧ u_w < s_w) (quv lv E_w made_w) (m_w.1 12 2) (m_w.1 12 3) (m_w.1 12 1)
theorem QSw.to {lv : Nat → Nat} {E_w : Nat → Int32} {made_w : Int32} {s_w : Nat} {m_w : dc_M} (q_w : QSw lv E_w made_w s_w m_w) : QIw lv E_w made_w s_w s_w m_w := ⟨by rw [q_w.1], by rw [q_w.2.1], q_w.2.2.iff (fun t_w u_w => ⟨fun h_w => ⟨h_w.1, Or.inl h_w.2⟩, fun h_w => ⟨h_w.1, by omega⟩⟩)⟩
theorem smw_b {f_w : Nat → Nat} (hf : ∀ u_w, f_w u_w ≤ u_w) : ∀ s_w, s_w ≤ 200 → smw f_w s_w ≤ 200 * s_w
  | 0, _ => Nat.le_refl _
  | s_w + 1, h_w => by
    have := smw_b hf s_w (by omega)
    have := hf s_w
    unfold smw
    omega
/-- a_w quarrel more -/
theorem aq_run {lv : Nat → Nat} {E_w : Nat → Int32} {made_w : Int32} {s_w k_w t_w : Nat} {m_w : dc_M} (hs : s_w < 200) (hk : k_w ≤ s_w) (ht : t_w < k_w) (hlt : lv t_w = lv s_w) (hq : quv lv E_w made_w t_w s_w = true) (hc_w : ∀ p : Nat → Bool, (∀ k_w, p k_w = true → lv k_w = lv s_w) → ctw p k_w = ctw p t_w + (if p t_w = true then 1 else 0)) (h0 : 0 ≤ (m_w.1 12 1).toInt ∧ (m_w.1 12 1).toInt ≤ 100000) (a0_w : 0 ≤ (m_w.1 12 0).toInt ∧ (m_w.1 12 0).toInt ≤ 100000) (q_w : QIw lv E_w made_w s_w k_w m_w) : QIw lv E_w made_w s_w t_w (d_X0_addQuarrel 12 (Int32.ofNat t_w) (Int32.ofNat s_w) (dc_wi m_w 12 0 (m_w.1 12 0 + 1))) ∧ ∀ b_w j_w, ¬ (b_w = 12 ∧ j_w ≤ 3) → (d_X0_addQuarrel 12 (Int32.ofNat t_w) (Int32.ofNat s_w) (dc_wi m_w 12 0 (m_w.1 12 0 + 1))).1 b_w j_w = m_w.1 b_w j_w := by
  obtain ⟨q1_w, q2_w, q3_w⟩ := q_w
  have e0_w : (m_w.1 12 0 + 1).toInt = (m_w.1 12 0).toInt + 1 := i1 (by omega) (Int32.le_toInt _)
  have e1_w : (m_w.1 12 1 + 1).toInt = (m_w.1 12 1).toInt + 1 := i1 (by omega) (Int32.le_toInt _)
  have c1_w := hc_w (fun t_w => decide (lv t_w = lv s_w)) (fun k_w hk => of_decide_eq_true hk)
  have c2_w := hc_w (fun t_w => quv lv E_w made_w t_w s_w) (fun k_w hk => by
    have hk : (decide (lv k_w = lv s_w) && decide (((E_w s_w ^^^ E_w k_w) &&& made_w).toInt ≠ 0)) = true := hk
    rw [Bool.and_eq_true] at hk
    exact of_decide_eq_true hk.1)
  rw [if_pos (decide_eq_true hlt)] at c1_w
  rw [if_pos hq] at c2_w
  have v0_w : (dc_wi m_w 12 0 (m_w.1 12 0 + 1)).1 12 0 = m_w.1 12 0 + 1 := wi_s
  have v1_w : (dc_wi m_w 12 0 (m_w.1 12 0 + 1)).1 12 1 = m_w.1 12 1 := wi_k (by omega)
  have v2 : (dc_wi m_w 12 0 (m_w.1 12 0 + 1)).1 12 2 = m_w.1 12 2 := wi_k (by omega)
  have v3 : (dc_wi m_w 12 0 (m_w.1 12 0 + 1)).1 12 3 = m_w.1 12 3 := wi_k (by omega)
  have vo : ∀ b_w j_w, ¬ (b_w = 12 ∧ j_w ≤ 3) → (dc_wi m_w 12 0 (m_w.1 12 0 + 1)).1 b_w j_w = m_w.1 b_w j_w := fun b_w j_w h_w => wi_k (by omega)
  generalize dc_wi m_w 12 0 (m_w.1 12 0 + 1) = m1 at *
  have first_w : ∀ M_w : dc_M, M_w.1 12 0 = m_w.1 12 0 + 1 → M_w.1 12 1 = m_w.1 12 1 + 1 → M_w.1 12 2 = Int32.ofNat t_w → M_w.1 12 3 = Int32.ofNat s_w → (∀ t' u_w, t' < u_w ∧ (u_w < s_w ∨ (u_w = s_w ∧ k_w ≤ t')) → quv lv E_w made_w t' u_w = true → t_w < t') → QIw lv E_w made_w s_w t_w M_w := fun M_w w0_w w1_w w2_w w3_w hmin => by
    refine ⟨by rw [w0_w, e0_w]; omega, by rw [w1_w, e1_w]; omega, Or.inr ⟨by rw [w1_w, e1_w]; omega, t_w, s_w, ⟨by omega, hs⟩, w2_w, w3_w, ⟨by omega, Or.inr ⟨rfl, Nat.le_refl _⟩⟩, hq, fun t' u_w hx hp => ?_⟩⟩
    by_cases ho : u_w < s_w ∨ (u_w = s_w ∧ k_w ≤ t')
    · exact Or.inl (hmin t' u_w ⟨hx.1, ho⟩ hp)
    · have hu : u_w = s_w := by omega
      by_cases he : t_w = t'
      · exact Or.inr ⟨he, by omega⟩
      · exact Or.inl (by omega)
  unfold d_X0_addQuarrel
  by_cases z_w : (m1.1 12 1).toInt = 0
  · rw [if_pos z_w]
    rw [v1_w] at z_w
    refine ⟨first_w _ ?_ ?_ ?_ ?_ (fun t' u_w hx hp => ?_), fun b_w j_w h_w => ?_⟩
    · rw [wi_k (by omega), wi_k (by omega), wi_k (by omega)]; exact v0_w
    · rw [wi_s, wi_k (by omega), wi_k (by omega), v1_w]
    · rw [wi_k (by omega), wi_k (by omega)]; exact wi_s
    · rw [wi_k (by omega)]; exact wi_s
    · rcases q3_w with ⟨-, -, -, q4_w⟩ | ⟨q4_w, -⟩
      · rw [q4_w t' u_w hx] at hp; cases hp
      · omega
    · rw [wi_k (by omega), wi_k (by omega), wi_k (by omega)]; exact vo b_w j_w h_w
  · rw [if_neg z_w]
    rw [v1_w] at z_w
    rcases q3_w with ⟨q4_w, -⟩ | ⟨q4_w, a_w, b_w, ⟨ha_w, hb_w⟩, q5_w, q6_w, q7_w, q8_w, q9_w⟩
    · exact absurd q4_w z_w
    · by_cases y_w : (m1.1 12 2).toInt ≤ (Int32.ofNat t_w).toInt
      · rw [if_pos y_w]
        rw [v2, q5_w, mk_i (by omega), mk_i (by omega)] at y_w
        have w1_w : (dc_wi m1 12 1 (m1.1 12 1 + 1)).1 12 1 = m_w.1 12 1 + 1 := by rw [wi_s, v1_w]
        refine ⟨⟨?_, ?_, ?_⟩, fun b_w j_w h_w => ?_⟩
        · rw [show (dc_wi m1 12 1 (m1.1 12 1 + 1)).1 12 0 = m_w.1 12 0 + 1 by rw [wi_k (by omega)]; exact v0_w, e0_w]; omega
        · rw [w1_w, e1_w]; omega
        · rw [w1_w, show (dc_wi m1 12 1 (m1.1 12 1 + 1)).1 12 2 = m_w.1 12 2 by rw [wi_k (by omega)]; exact v2, show (dc_wi m1 12 1 (m1.1 12 1 + 1)).1 12 3 = m_w.1 12 3 by rw [wi_k (by omega)]; exact v3]
          refine Or.inr ⟨by rw [e1_w]; omega, a_w, b_w, ⟨ha_w, hb_w⟩, q5_w, q6_w, ⟨q7_w.1, by omega⟩, q8_w, fun t' u_w hx hp => ?_⟩
          by_cases ho : u_w < s_w ∨ (u_w = s_w ∧ k_w ≤ t')
          · exact q9_w t' u_w ⟨hx.1, ho⟩ hp
          · have hu : u_w = s_w := by omega
            have hbs : b_w ≤ s_w := by omega
            by_cases he : a_w = t'
            · exact Or.inr ⟨he, by omega⟩
            · exact Or.inl (by omega)
        · rw [wi_k (by omega)]; exact vo b_w j_w h_w
      · rw [if_neg y_w]
        rw [v2, q5_w, mk_i (by omega), mk_i (by omega)] at y_w
        refine ⟨first_w _ ?_ ?_ ?_ ?_ (fun t' u_w hx hp => ?_), fun b_w j_w h_w => ?_⟩
        · rw [wi_k (by omega), wi_k (by omega), wi_k (by omega)]; exact v0_w
        · rw [wi_s, wi_k (by omega), wi_k (by omega), v1_w]
        · rw [wi_k (by omega), wi_k (by omega)]; exact wi_s
        · rw [wi_k (by omega)]; exact wi_s
        · have := q9_w t' u_w hx hp
          omega
        · rw [wi_k (by omega), wi_k (by omega), wi_k (by omega)]; exact vo b_w j_w h_w
