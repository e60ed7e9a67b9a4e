/-! ===== what finding and gathering leave alone ===== -/
def FZ (a_w b_w : Nat) (c0_w m_w : dc_M) : Prop := cs_md a_w b_w ∧ (∀ x_w k_w, ¬ (12 ≤ x_w ∧ x_w ≤ 14) → m_w.1 x_w k_w = c0_w.1 x_w k_w) ∧ m_w.2 = c0_w.2
def fzc (a_w b_w x_w k_w : Nat) : Prop := 12 ≤ x_w ∧ x_w ≤ 14 ∧ (a_w = a_w ∧ b_w = b_w ∧ k_w = k_w)
theorem fz_wi {a_w b_w : Nat} {c0_w m_w : dc_M} {x_w k_w : Nat} {v_w : Int32} (h_w : FZ a_w b_w c0_w m_w) (hs : (a_w = 41 ∧ b_w = 52) ∨ (a_w = 52 ∧ b_w = 41) → fzc a_w b_w x_w k_w) : FZ a_w b_w c0_w (dc_wi m_w x_w k_w v_w) := by
  obtain ⟨h1, h2, h3⟩ := h_w
  have s_w := hs h1
  unfold fzc at s_w
  exact ⟨h1, fun y_w j_w hy => (wi_k (by omega)).trans (h2 y_w j_w hy), h3⟩
def FT (a_w b_w : Nat) (c0_w m_w : dc_M) : Prop := cs_md a_w b_w ∧ (∀ x_w k_w, ¬ (x_w = 12 ∧ 4 ≤ k_w ∧ k_w ≤ 7) → m_w.1 x_w k_w = c0_w.1 x_w k_w) ∧ m_w.2 = c0_w.2
def ftc (a_w b_w x_w k_w : Nat) : Prop := x_w = 12 ∧ 4 ≤ k_w ∧ k_w ≤ 7 ∧ (a_w = a_w ∧ b_w = b_w)
theorem ft_wi {a_w b_w : Nat} {c0_w m_w : dc_M} {x_w k_w : Nat} {v_w : Int32} (h_w : FT a_w b_w c0_w m_w) (hs : (a_w = 41 ∧ b_w = 52) ∨ (a_w = 52 ∧ b_w = 41) → ftc a_w b_w x_w k_w) : FT a_w b_w c0_w (dc_wi m_w x_w k_w v_w) := by
  obtain ⟨h1, h2, h3⟩ := h_w
  have s_w := hs h1
  unfold ftc at s_w
  exact ⟨h1, fun y_w j_w hy => (wi_k (by omega)).trans (h2 y_w j_w hy), h3⟩
def FY (a_w b_w : Nat) (c0_w m_w : dc_M) : Prop := cs_md a_w b_w ∧ (∀ x_w k_w, ¬ (15 ≤ x_w ∧ x_w ≤ 17) → m_w.1 x_w k_w = c0_w.1 x_w k_w) ∧ (∀ x_w k_w, ¬ (15 ≤ x_w ∧ x_w ≤ 17) → m_w.2.1 x_w k_w = c0_w.2.1 x_w k_w) ∧ m_w.2.2 = c0_w.2.2
def fyc (a_w b_w x_w k_w : Nat) : Prop := 15 ≤ x_w ∧ x_w ≤ 17 ∧ (a_w = a_w ∧ b_w = b_w ∧ k_w = k_w)
theorem fy_wi {a_w b_w : Nat} {c0_w m_w : dc_M} {x_w k_w : Nat} {v_w : Int32} (h_w : FY a_w b_w c0_w m_w) (hs : (a_w = 41 ∧ b_w = 52) ∨ (a_w = 52 ∧ b_w = 41) → fyc a_w b_w x_w k_w) : FY a_w b_w c0_w (dc_wi m_w x_w k_w v_w) := by
  obtain ⟨h1, h2, h3, h4⟩ := h_w
  have s_w := hs h1
  unfold fyc at s_w
  exact ⟨h1, fun y_w j_w hy => (wi_k (by omega)).trans (h2 y_w j_w hy), h3, h4⟩
theorem fy_wl {a_w b_w : Nat} {c0_w m_w : dc_M} {x_w k_w : Nat} {v_w : Int64} (h_w : FY a_w b_w c0_w m_w) (hs : (a_w = 41 ∧ b_w = 52) ∨ (a_w = 52 ∧ b_w = 41) → fyc a_w b_w x_w k_w) : FY a_w b_w c0_w (dc_wl m_w x_w k_w v_w) := by
  obtain ⟨h1, h2, h3, h4⟩ := h_w
  have s_w := hs h1
  unfold fyc at s_w
  refine ⟨h1, h2, fun y_w j_w hy => ?_, h4⟩
  show (if y_w = x_w ∧ j_w = k_w then v_w else m_w.2.1 y_w j_w) = _
  rw [if_neg (by omega)]
  exact h3 y_w j_w hy
