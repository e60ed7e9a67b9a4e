/-! the reference: what is there behind it -/
theorem ac_v {x_w y_w L_w : Int32} {m_w : dc_M} {E_w W_w : Nat} (hE : (m_w.1 82 3).toNatClampNeg = E_w) (hE1 : (m_w.1 82 3 + 1).toNatClampNeg = E_w + 1) (hW : (m_w.1 82 0).toNatClampNeg = W_w) (hx : x_w.toNatClampNeg < E_w) (hy : y_w.toNatClampNeg < E_w) (hxy : x_w.toNatClampNeg ≠ y_w.toNatClampNeg) :
    (acM m_w x_w y_w L_w).1 82 0 = m_w.1 82 0 + 1 ∧ (acM m_w x_w y_w L_w).1 82 3 = m_w.1 82 3 + 1 + 1 ∧ (acM m_w x_w y_w L_w).1 82 10 = m_w.1 82 10 + 1 + 1 ∧ (∀ k_w, k_w ≠ 0 → k_w ≠ 3 → k_w ≠ 10 → (acM m_w x_w y_w L_w).1 82 k_w = m_w.1 82 k_w)
    ∧ (∀ k_w, (acM m_w x_w y_w L_w).1 83 k_w = if k_w = W_w then L_w else m_w.1 83 k_w) ∧ (∀ k_w, (acM m_w x_w y_w L_w).1 84 k_w = if k_w = W_w then 2 else m_w.1 84 k_w)
    ∧ (∀ k_w, (acM m_w x_w y_w L_w).1 85 k_w = if k_w = E_w ∨ k_w = E_w + 1 then m_w.1 82 0 else m_w.1 85 k_w)
    ∧ (∀ k_w, (acM m_w x_w y_w L_w).1 86 k_w = if k_w = E_w then 1 else if k_w = E_w + 1 then 0 else m_w.1 86 k_w)
    ∧ (∀ k_w, (acM m_w x_w y_w L_w).1 87 k_w = if k_w = E_w ∨ k_w = E_w + 1 then 0 else m_w.1 87 k_w)
    ∧ (∀ k_w, (acM m_w x_w y_w L_w).1 88 k_w = if k_w = E_w then (1 : Int32) <<< (m_w.1 82 10 &&& 31) else if k_w = E_w + 1 then (1 : Int32) <<< ((m_w.1 82 10 + 1) &&& 31) else m_w.1 88 k_w)
    ∧ (∀ k_w, (acM m_w x_w y_w L_w).1 89 k_w = if k_w = E_w then m_w.1 89 x_w.toNatClampNeg else if k_w = E_w + 1 then m_w.1 89 y_w.toNatClampNeg else if k_w = x_w.toNatClampNeg then (1 : Int32) <<< (m_w.1 82 10 &&& 31) else if k_w = y_w.toNatClampNeg then (1 : Int32) <<< ((m_w.1 82 10 + 1) &&& 31) else m_w.1 89 k_w)
    ∧ (∀ k_w, (acM m_w x_w y_w L_w).1 90 k_w = if k_w = E_w ∨ k_w = E_w + 1 then 1 else m_w.1 90 k_w)
    ∧ ∀ b_w k_w, b_w ≠ 82 → ¬ (83 ≤ b_w ∧ b_w ≤ 90) → (acM m_w x_w y_w L_w).1 b_w k_w = m_w.1 b_w k_w := by
  have r_w : ∀ b_w k_w, b_w ≠ 82 → (acM m_w x_w y_w L_w).1 b_w k_w = (d_X10_addEvent 82 y_w 0 (d_X10_addEvent 82 x_w 1 (dc_wi (dc_wi m_w 83 (m_w.1 82 0).toNatClampNeg L_w) 84 (m_w.1 82 0).toNatClampNeg 2))).1 b_w k_w := fun b_w k_w hb_w => wi_k (by omega)
  have m1v : ∀ b_w k_w, b_w ≠ 83 → b_w ≠ 84 → (dc_wi (dc_wi m_w 83 (m_w.1 82 0).toNatClampNeg L_w) 84 (m_w.1 82 0).toNatClampNeg 2).1 b_w k_w = m_w.1 b_w k_w := fun b_w k_w h1 h2 => by rw [wi_k (by omega), wi_k (by omega)]
  have m83 : ∀ k_w, (dc_wi (dc_wi m_w 83 (m_w.1 82 0).toNatClampNeg L_w) 84 (m_w.1 82 0).toNatClampNeg 2).1 83 k_w = if k_w = W_w then L_w else m_w.1 83 k_w := fun k_w => by
    rw [wi_k (by omega), hW]
    by_cases h_w : k_w = W_w
    · rw [if_pos h_w, h_w]; exact wi_s
    · rw [if_neg h_w]; exact wi_k (by omega)
  have m84 : ∀ k_w, (dc_wi (dc_wi m_w 83 (m_w.1 82 0).toNatClampNeg L_w) 84 (m_w.1 82 0).toNatClampNeg 2).1 84 k_w = if k_w = W_w then 2 else m_w.1 84 k_w := fun k_w => by
    rw [hW]
    by_cases h_w : k_w = W_w
    · rw [if_pos h_w, h_w]; exact wi_s
    · rw [if_neg h_w, wi_k (by omega)]; exact wi_k (by omega)
  have r0 : (acM m_w x_w y_w L_w).1 82 0 = (d_X10_addEvent 82 y_w 0 (d_X10_addEvent 82 x_w 1 (dc_wi (dc_wi m_w 83 (m_w.1 82 0).toNatClampNeg L_w) 84 (m_w.1 82 0).toNatClampNeg 2))).1 82 0 + 1 := wi_s
  have rk : ∀ k_w, k_w ≠ 0 → (acM m_w x_w y_w L_w).1 82 k_w = (d_X10_addEvent 82 y_w 0 (d_X10_addEvent 82 x_w 1 (dc_wi (dc_wi m_w 83 (m_w.1 82 0).toNatClampNeg L_w) 84 (m_w.1 82 0).toNatClampNeg 2))).1 82 k_w := fun k_w hk => wi_k (by omega)
  generalize acM m_w x_w y_w L_w = z at *
  generalize dc_wi (dc_wi m_w 83 (m_w.1 82 0).toNatClampNeg L_w) 84 (m_w.1 82 0).toNatClampNeg 2 = m1 at *
  have s3_w : m1.1 82 3 = m_w.1 82 3 := m1v 82 3 (by decide) (by decide)
  have s0_w : m1.1 82 0 = m_w.1 82 0 := m1v 82 0 (by decide) (by decide)
  have s10 : m1.1 82 10 = m_w.1 82 10 := m1v 82 10 (by decide) (by decide)
  have u_w : ∀ b_w k_w, (d_X10_addEvent 82 x_w 1 m1).1 b_w k_w = if b_w = 82 ∧ k_w = 3 then m_w.1 82 3 + 1 else if b_w = 82 ∧ k_w = 10 then m_w.1 82 10 + 1 else if b_w = 90 ∧ k_w = E_w then 1 else if b_w = 89 ∧ k_w = x_w.toNatClampNeg then (1 : Int32) <<< (m_w.1 82 10 &&& 31) else if b_w = 89 ∧ k_w = E_w then m_w.1 89 x_w.toNatClampNeg else if b_w = 88 ∧ k_w = E_w then (1 : Int32) <<< (m_w.1 82 10 &&& 31) else if b_w = 87 ∧ k_w = E_w then 0 else if b_w = 86 ∧ k_w = E_w then 1 else if b_w = 85 ∧ k_w = E_w then m_w.1 82 0 else m1.1 b_w k_w := fun b_w k_w => by
    rw [aeR_v, s3_w, s0_w, s10, hE, m1v 89 _ (by decide) (by decide)]
  generalize d_X10_addEvent 82 x_w 1 m1 = m2 at *
  have t3_w : m2.1 82 3 = m_w.1 82 3 + 1 := by rw [u_w, if_pos ⟨rfl, rfl⟩]
  have t0_w : m2.1 82 0 = m_w.1 82 0 := by rw [u_w, if_neg (by omega), if_neg (by omega), if_neg (by omega), if_neg (by omega), if_neg (by omega), if_neg (by omega), if_neg (by omega), if_neg (by omega), if_neg (by omega), s0_w]
  have t10 : m2.1 82 10 = m_w.1 82 10 + 1 := by rw [u_w, if_neg (by omega), if_pos ⟨rfl, rfl⟩]
  have t89 : m2.1 89 y_w.toNatClampNeg = m_w.1 89 y_w.toNatClampNeg := by rw [u_w, if_neg (by omega), if_neg (by omega), if_neg (by omega), if_neg (by omega), if_neg (by omega), if_neg (by omega), if_neg (by omega), if_neg (by omega), if_neg (by omega), m1v _ _ (by decide) (by decide)]
  have w_w : ∀ b_w k_w, (d_X10_addEvent 82 y_w 0 m2).1 b_w k_w = if b_w = 82 ∧ k_w = 3 then m_w.1 82 3 + 1 + 1 else if b_w = 82 ∧ k_w = 10 then m_w.1 82 10 + 1 + 1 else if b_w = 90 ∧ k_w = E_w + 1 then 1 else if b_w = 89 ∧ k_w = y_w.toNatClampNeg then (1 : Int32) <<< ((m_w.1 82 10 + 1) &&& 31) else if b_w = 89 ∧ k_w = E_w + 1 then m_w.1 89 y_w.toNatClampNeg else if b_w = 88 ∧ k_w = E_w + 1 then (1 : Int32) <<< ((m_w.1 82 10 + 1) &&& 31) else if b_w = 87 ∧ k_w = E_w + 1 then 0 else if b_w = 86 ∧ k_w = E_w + 1 then 0 else if b_w = 85 ∧ k_w = E_w + 1 then m_w.1 82 0 else m2.1 b_w k_w := fun b_w k_w => by
    rw [aeR_v, t3_w, t0_w, t10, hE1, t89]
  generalize d_X10_addEvent 82 y_w 0 m2 = m3 at *
  have v_w : ∀ b_w k_w, b_w ≠ 82 → z.1 b_w k_w = if b_w = 90 ∧ k_w = E_w + 1 then 1 else if b_w = 89 ∧ k_w = y_w.toNatClampNeg then (1 : Int32) <<< ((m_w.1 82 10 + 1) &&& 31) else if b_w = 89 ∧ k_w = E_w + 1 then m_w.1 89 y_w.toNatClampNeg else if b_w = 88 ∧ k_w = E_w + 1 then (1 : Int32) <<< ((m_w.1 82 10 + 1) &&& 31) else if b_w = 87 ∧ k_w = E_w + 1 then 0 else if b_w = 86 ∧ k_w = E_w + 1 then 0 else if b_w = 85 ∧ k_w = E_w + 1 then m_w.1 82 0 else if b_w = 90 ∧ k_w = E_w then 1 else if b_w = 89 ∧ k_w = x_w.toNatClampNeg then (1 : Int32) <<< (m_w.1 82 10 &&& 31) else if b_w = 89 ∧ k_w = E_w then m_w.1 89 x_w.toNatClampNeg else if b_w = 88 ∧ k_w = E_w then (1 : Int32) <<< (m_w.1 82 10 &&& 31) else if b_w = 87 ∧ k_w = E_w then 0 else if b_w = 86 ∧ k_w = E_w then 1 else if b_w = 85 ∧ k_w = E_w then m_w.1 82 0 else m1.1 b_w k_w := fun b_w k_w hb_w => by
    rw [r_w b_w k_w hb_w, w_w, if_neg (by omega), if_neg (by omega), u_w, if_neg (show ¬ (b_w = 82 ∧ k_w = 3) by omega), if_neg (show ¬ (b_w = 82 ∧ k_w = 10) by omega)]
  refine ⟨?_, ?_, ?_, ?_, ?_, ?_, ?_, ?_, ?_, ?_, ?_, ?_, ?_⟩
  · rw [r0, w_w, if_neg (by omega), if_neg (by omega), if_neg (by omega), if_neg (by omega), if_neg (by omega), if_neg (by omega), if_neg (by omega), if_neg (by omega), if_neg (by omega), t0_w]
  · rw [rk 3 (by decide), w_w, if_pos ⟨rfl, rfl⟩]
  · rw [rk 10 (by decide), w_w, if_neg (by omega), if_pos ⟨rfl, rfl⟩]
  · intro k_w h0 h3 h10
    rw [rk k_w h0, w_w, if_neg (by omega), if_neg (by omega), if_neg (by omega), if_neg (by omega), if_neg (by omega), if_neg (by omega), if_neg (by omega), if_neg (by omega), if_neg (by omega), u_w, if_neg (by omega), if_neg (by omega), if_neg (by omega), if_neg (by omega), if_neg (by omega), if_neg (by omega), if_neg (by omega), if_neg (by omega), if_neg (by omega), m1v _ _ (by decide) (by decide)]
  · intro k_w
    rw [v_w 83 k_w (by decide), if_neg (by omega), if_neg (by omega), if_neg (by omega), if_neg (by omega), if_neg (by omega), if_neg (by omega), if_neg (by omega), if_neg (by omega), if_neg (by omega), if_neg (by omega), if_neg (by omega), if_neg (by omega), if_neg (by omega), if_neg (by omega), m83]
  · intro k_w
    rw [v_w 84 k_w (by decide), if_neg (by omega), if_neg (by omega), if_neg (by omega), if_neg (by omega), if_neg (by omega), if_neg (by omega), if_neg (by omega), if_neg (by omega), if_neg (by omega), if_neg (by omega), if_neg (by omega), if_neg (by omega), if_neg (by omega), if_neg (by omega), m84]
  · intro k_w
    by_cases h_w : k_w = E_w
    · rw [v_w 85 k_w (by decide), if_neg (by omega), if_neg (by omega), if_neg (by omega), if_neg (by omega), if_neg (by omega), if_neg (by omega), if_neg (by omega), if_neg (by omega), if_neg (by omega), if_neg (by omega), if_neg (by omega), if_neg (by omega), if_neg (by omega), if_pos ⟨rfl, h_w⟩, if_pos (Or.inl h_w)]
    · have h0 := h_w
      clear h_w
      by_cases h_w : k_w = E_w + 1
      · rw [v_w 85 k_w (by decide), if_neg (by omega), if_neg (by omega), if_neg (by omega), if_neg (by omega), if_neg (by omega), if_neg (by omega), if_pos ⟨rfl, h_w⟩, if_pos (Or.inr h_w)]
      · have h1 := h_w
        clear h_w
        rw [v_w 85 k_w (by decide), if_neg (by omega), if_neg (by omega), if_neg (by omega), if_neg (by omega), if_neg (by omega), if_neg (by omega), if_neg (by omega), if_neg (by omega), if_neg (by omega), if_neg (by omega), if_neg (by omega), if_neg (by omega), if_neg (by omega), if_neg (by omega), if_neg (by omega), m1v _ _ (by decide) (by decide)]
  · intro k_w
    by_cases h_w : k_w = E_w
    · rw [v_w 86 k_w (by decide), if_neg (by omega), if_neg (by omega), if_neg (by omega), if_neg (by omega), if_neg (by omega), if_neg (by omega), if_neg (by omega), if_neg (by omega), if_neg (by omega), if_neg (by omega), if_neg (by omega), if_neg (by omega), if_pos ⟨rfl, h_w⟩, if_pos h_w]
    · have h0 := h_w
      clear h_w
      by_cases h_w : k_w = E_w + 1
      · rw [v_w 86 k_w (by decide), if_neg (by omega), if_neg (by omega), if_neg (by omega), if_neg (by omega), if_neg (by omega), if_pos ⟨rfl, h_w⟩, if_neg (by omega), if_pos h_w]
      · have h1 := h_w
        clear h_w
        rw [v_w 86 k_w (by decide), if_neg (by omega), if_neg (by omega), if_neg (by omega), if_neg (by omega), if_neg (by omega), if_neg (by omega), if_neg (by omega), if_neg (by omega), if_neg (by omega), if_neg (by omega), if_neg (by omega), if_neg (by omega), if_neg (by omega), if_neg (by omega), if_neg (by omega), if_neg (by omega), m1v _ _ (by decide) (by decide)]
  · intro k_w
    by_cases h_w : k_w = E_w
    · rw [v_w 87 k_w (by decide), if_neg (by omega), if_neg (by omega), if_neg (by omega), if_neg (by omega), if_neg (by omega), if_neg (by omega), if_neg (by omega), if_neg (by omega), if_neg (by omega), if_neg (by omega), if_neg (by omega), if_pos ⟨rfl, h_w⟩, if_pos (Or.inl h_w)]
    · have h0 := h_w
      clear h_w
      by_cases h_w : k_w = E_w + 1
      · rw [v_w 87 k_w (by decide), if_neg (by omega), if_neg (by omega), if_neg (by omega), if_neg (by omega), if_pos ⟨rfl, h_w⟩, if_pos (Or.inr h_w)]
      · have h1 := h_w
        clear h_w
        rw [v_w 87 k_w (by decide), if_neg (by omega), if_neg (by omega), if_neg (by omega), if_neg (by omega), if_neg (by omega), if_neg (by omega), if_neg (by omega), if_neg (by omega), if_neg (by omega), if_neg (by omega), if_neg (by omega), if_neg (by omega), if_neg (by omega), if_neg (by omega), if_neg (by omega), m1v _ _ (by decide) (by decide)]
  · intro k_w
    by_cases h_w : k_w = E_w
    · rw [v_w 88 k_w (by decide), if_neg (by omega), if_neg (by omega), if_neg (by omega), if_neg (by omega), if_neg (by omega), if_neg (by omega), if_neg (by omega), if_neg (by omega), if_neg (by omega), if_neg (by omega), if_pos ⟨rfl, h_w⟩, if_pos h_w]
    · have h0 := h_w
      clear h_w
      by_cases h_w : k_w = E_w + 1
      · rw [v_w 88 k_w (by decide), if_neg (by omega), if_neg (by omega), if_neg (by omega), if_pos ⟨rfl, h_w⟩, if_neg (by omega), if_pos h_w]
      · have h1 := h_w
        clear h_w
        rw [v_w 88 k_w (by decide), if_neg (by omega), if_neg (by omega), if_neg (by omega), if_neg (by omega), if_neg (by omega), if_neg (by omega), if_neg (by omega), if_neg (by omega), if_neg (by omega), if_neg (by omega), if_neg (by omega), if_neg (by omega), if_neg (by omega), if_neg (by omega), if_neg (by omega), if_neg (by omega), m1v _ _ (by decide) (by decide)]
  · intro k_w
    by_cases h_w : k_w = E_w
    · rw [v_w 89 k_w (by decide), if_neg (by omega), if_neg (by omega), if_neg (by omega), if_neg (by omega), if_neg (by omega), if_neg (by omega), if_neg (by omega), if_neg (by omega), if_neg (by omega), if_pos ⟨rfl, h_w⟩, if_pos h_w]
    · have h0 := h_w
      clear h_w
      by_cases h_w : k_w = E_w + 1
      · rw [v_w 89 k_w (by decide), if_neg (by omega), if_neg (by omega), if_pos ⟨rfl, h_w⟩, if_neg (by omega), if_pos h_w]
      · have h1 := h_w
        clear h_w
        by_cases h_w : k_w = x_w.toNatClampNeg
        · rw [v_w 89 k_w (by decide), if_neg (by omega), if_neg (by omega), if_neg (by omega), if_neg (by omega), if_neg (by omega), if_neg (by omega), if_neg (by omega), if_neg (by omega), if_pos ⟨rfl, h_w⟩, if_neg (by omega), if_neg (by omega), if_pos h_w]
        · have h2 := h_w
          clear h_w
          by_cases h_w : k_w = y_w.toNatClampNeg
          · rw [v_w 89 k_w (by decide), if_neg (by omega), if_pos ⟨rfl, h_w⟩, if_neg (by omega), if_neg (by omega), if_neg (by omega), if_pos h_w]
          · have h3 := h_w
            clear h_w
            rw [v_w 89 k_w (by decide), if_neg (by omega), if_neg (by omega), if_neg (by omega), if_neg (by omega), if_neg (by omega), if_neg (by omega), if_neg (by omega), if_neg (by omega), if_neg (by omega), if_neg (by omega), if_neg (by omega), if_neg (by omega), if_neg (by omega), if_neg (by omega), if_neg (by omega), if_neg (by omega), if_neg (by omega), if_neg (by omega), m1v _ _ (by decide) (by decide)]
  · intro k_w
    by_cases h_w : k_w = E_w
    · rw [v_w 90 k_w (by decide), if_neg (by omega), if_neg (by omega), if_neg (by omega), if_neg (by omega), if_neg (by omega), if_neg (by omega), if_neg (by omega), if_pos ⟨rfl, h_w⟩, if_pos (Or.inl h_w)]
    · have h0 := h_w
      clear h_w
      by_cases h_w : k_w = E_w + 1
      · rw [v_w 90 k_w (by decide), if_pos ⟨rfl, h_w⟩, if_pos (Or.inr h_w)]
      · have h1 := h_w
        clear h_w
        rw [v_w 90 k_w (by decide), if_neg (by omega), if_neg (by omega), if_neg (by omega), if_neg (by omega), if_neg (by omega), if_neg (by omega), if_neg (by omega), if_neg (by omega), if_neg (by omega), if_neg (by omega), if_neg (by omega), if_neg (by omega), if_neg (by omega), if_neg (by omega), if_neg (by omega), m1v _ _ (by decide) (by decide)]
  · intro b_w k_w hb_w hb2
    rw [v_w b_w k_w hb_w, if_neg (by omega), if_neg (by omega), if_neg (by omega), if_neg (by omega), if_neg (by omega), if_neg (by omega), if_neg (by omega), if_neg (by omega), if_neg (by omega), if_neg (by omega), if_neg (by omega), if_neg (by omega), if_neg (by omega), if_neg (by omega), m1v _ _ (by omega) (by omega)]
