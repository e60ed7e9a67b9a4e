/-! ===== quarrels: the reference's pairs ===== -/
/-- rows of pairs below s_w are done, of row s_w those up to u_w -/
def QRw (lv : Nat → Nat) (E_w : Nat → Int32) (made_w : Int32) (n_w s_w u_w : Nat) (m_w : dc_M) : Prop := (m_w.1 82 39).toInt = smw (fun t_w => ctw (fun u_w => decide (t_w < u_w) && decide (lv t_w = lv u_w)) n_w) s_w + ctw (fun u_w => decide (s_w < u_w) && decide (lv s_w = lv u_w)) u_w ∧ (m_w.1 82 40).toInt = smw (fun t_w => ctw (fun u_w => decide (t_w < u_w) && quv lv E_w made_w t_w u_w) n_w) s_w + ctw (fun u_w => decide (s_w < u_w) && quv lv E_w made_w s_w u_w) u_w ∧ FPw (fun t_w v_w => t_w < v_w ∧ v_w < n_w ∧ (t_w < s_w ∨ (t_w = s_w ∧ v_w < u_w))) (quv lv E_w made_w) (m_w.1 82 41) (m_w.1 82 42) (m_w.1 82 40)
theorem QRw.bd {lv : Nat → Nat} {E_w : Nat → Int32} {made_w : Int32} {n_w s_w u_w : Nat} {m_w : dc_M} (hn : n_w ≤ 200) (hs : s_w ≤ n_w) (hu : u_w ≤ n_w) (q : QRw lv E_w made_w n_w s_w u_w m_w) : (0 ≤ (m_w.1 82 39).toInt ∧ (m_w.1 82 39).toInt ≤ 100000) ∧ 0 ≤ (m_w.1 82 40).toInt ∧ (m_w.1 82 40).toInt ≤ 100000 := by
  obtain ⟨q1_w, q2_w, -⟩ := q
  have b_w : ∀ (p : Nat → Nat → Bool) (s_w : Nat), s_w ≤ 200 → smw (fun t_w => ctw (p t_w) n_w) s_w ≤ 200 * s_w := fun p s_w => by
    induction s_w with
    | zero => exact fun _ => Nat.le_refl _
    | succ s_w ih =>
      intro h_w
      have a1_w := ih (by omega)
      have a2 := ctw_le (p := p s_w) n_w
      show smw (fun t_w => ctw (p t_w) n_w) s_w + ctw (p s_w) n_w ≤ _
      omega
  have a1_w := b_w (fun t_w u_w => decide (t_w < u_w) && decide (lv t_w = lv u_w)) s_w (by omega)
  have a2 := b_w (fun t_w u_w => decide (t_w < u_w) && quv lv E_w made_w t_w u_w) s_w (by omega)
  have a3 := ctw_le (p := fun u_w => decide (s_w < u_w) && decide (lv s_w = lv u_w)) u_w
  have a4 := ctw_le (p := fun u_w => decide (s_w < u_w) && quv lv E_w made_w s_w u_w) u_w
  omega
/-- what the reference's memory keeps while it counts -/
def krq (m0_w m_w : dc_M) : Prop := (∀ b_w j, ¬ (b_w = 82 ∧ 39 ≤ j ∧ j ≤ 42) → m_w.1 b_w j = m0_w.1 b_w j) ∧ m_w.2 = m0_w.2
/-- one pair more -/
theorem QRw.sk {lv : Nat → Nat} {E_w : Nat → Int32} {made_w : Int32} {n_w s_w u_w : Nat} {m_w M_w : dc_M} (hsu : s_w < u_w) (hu : u_w < n_w) (q : QRw lv E_w made_w n_w s_w u_w m_w) (h1 : (M_w.1 82 39).toInt = (m_w.1 82 39).toInt + (if lv s_w = lv u_w then 1 else 0)) (h2 : quv lv E_w made_w s_w u_w = false) (e0_w : M_w.1 82 40 = m_w.1 82 40) (e1_w : M_w.1 82 41 = m_w.1 82 41) (e2_w : M_w.1 82 42 = m_w.1 82 42) : QRw lv E_w made_w n_w s_w (u_w + 1) M_w := by
  obtain ⟨q1_w, q2_w, q3⟩ := q
  refine ⟨?_, ?_, ?_⟩
  · have : ctw (fun u_w => decide (s_w < u_w) && decide (lv s_w = lv u_w)) (u_w + 1) = ctw (fun u_w => decide (s_w < u_w) && decide (lv s_w = lv u_w)) u_w + (if (decide (s_w < u_w) && decide (lv s_w = lv u_w)) = true then 1 else 0) := rfl
    rw [this, h1, q1_w, decide_eq_true hsu, Bool.true_and]
    by_cases hz : lv s_w = lv u_w
    · rw [if_pos hz, if_pos (decide_eq_true hz)]
      omega
    · rw [if_neg hz, if_neg (by rw [decide_eq_false hz]; decide)]
      omega
  · have : ctw (fun u_w => decide (s_w < u_w) && quv lv E_w made_w s_w u_w) (u_w + 1) = ctw (fun u_w => decide (s_w < u_w) && quv lv E_w made_w s_w u_w) u_w + (if (decide (s_w < u_w) && quv lv E_w made_w s_w u_w) = true then 1 else 0) := rfl
    rw [this, h2, Bool.and_false, if_neg (by decide), e0_w, q2_w]
    rfl
  · rw [e0_w, e1_w, e2_w]
    refine q3.sk (fun t_w v_w hy => ?_) (fun t_w v_w hx => ⟨hx.1, hx.2.1, by omega⟩)
    by_cases ho : t_w < s_w ∨ (t_w = s_w ∧ v_w < u_w)
    · exact Or.inl ⟨hy.1, hy.2.1, ho⟩
    · refine Or.inr ?_
      rw [show t_w = s_w by omega, show v_w = u_w by omega]
      exact h2
theorem QRw.qu {lv : Nat → Nat} {E_w : Nat → Int32} {made_w : Int32} {n_w s_w u_w : Nat} {m_w M_w : dc_M} (hn : n_w ≤ 200) (hsu : s_w < u_w) (hu : u_w < n_w) (q : QRw lv E_w made_w n_w s_w u_w m_w) (hl : lv s_w = lv u_w) (h1 : (M_w.1 82 39).toInt = (m_w.1 82 39).toInt + 1) (h2 : quv lv E_w made_w s_w u_w = true) (e0_w : (M_w.1 82 40).toInt = (m_w.1 82 40).toInt + 1) (e1_w : M_w.1 82 41 = if (m_w.1 82 40).toInt = 0 then Int32.ofNat s_w else m_w.1 82 41) (e2_w : M_w.1 82 42 = if (m_w.1 82 40).toInt = 0 then Int32.ofNat u_w else m_w.1 82 42) : QRw lv E_w made_w n_w s_w (u_w + 1) M_w := by
  have bd := q.bd hn (by omega) (by omega)
  obtain ⟨q1_w, q2_w, q3⟩ := q
  refine ⟨?_, ?_, ?_⟩
  · have : ctw (fun u_w => decide (s_w < u_w) && decide (lv s_w = lv u_w)) (u_w + 1) = ctw (fun u_w => decide (s_w < u_w) && decide (lv s_w = lv u_w)) u_w + (if (decide (s_w < u_w) && decide (lv s_w = lv u_w)) = true then 1 else 0) := rfl
    rw [this, h1, q1_w, decide_eq_true hsu, decide_eq_true hl, if_pos (show (true && true) = true from rfl)]
    omega
  · have : ctw (fun u_w => decide (s_w < u_w) && quv lv E_w made_w s_w u_w) (u_w + 1) = ctw (fun u_w => decide (s_w < u_w) && quv lv E_w made_w s_w u_w) u_w + (if (decide (s_w < u_w) && quv lv E_w made_w s_w u_w) = true then 1 else 0) := rfl
    rw [this, e0_w, q2_w, decide_eq_true hsu, h2, if_pos (show (true && true) = true from rfl)]
    omega
  · rcases q3 with ⟨k1_w, k2_w, k3_w, k4_w⟩ | ⟨k1_w, a_w, b_w, k2_w, k3_w, k4_w, k5_w, k6_w, k7_w⟩
    · rw [e1_w, e2_w, if_pos k1_w, if_pos k1_w]
      refine Or.inr ⟨by omega, s_w, u_w, ⟨by omega, by omega⟩, rfl, rfl, ⟨hsu, hu, Or.inr ⟨rfl, Nat.lt_succ_self u_w⟩⟩, h2, fun t_w v_w hx hp => ?_⟩
      by_cases ho : t_w < s_w ∨ (t_w = s_w ∧ v_w < u_w)
      · have := k4_w t_w v_w ⟨hx.1, hx.2.1, ho⟩
        rw [this] at hp
        cases hp
      · exact Or.inr (by omega)
    · rw [e1_w, e2_w, if_neg (show ¬ (m_w.1 82 40).toInt = 0 by omega), if_neg (show ¬ (m_w.1 82 40).toInt = 0 by omega)]
      refine Or.inr ⟨by omega, a_w, b_w, k2_w, k3_w, k4_w, ⟨k5_w.1, k5_w.2.1, by omega⟩, k6_w, fun t_w v_w hx hp => ?_⟩
      by_cases ho : t_w < s_w ∨ (t_w = s_w ∧ v_w < u_w)
      · exact k7_w t_w v_w ⟨hx.1, hx.2.1, ho⟩ hp
      · omega
