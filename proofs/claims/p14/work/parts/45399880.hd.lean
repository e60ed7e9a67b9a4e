/-! ===== frames: exploring, telling levels, finding home, a_w wire more ===== -/
def FEm (a_w b_w : Nat) (c0_w m_w : dc_M) : Prop := cs_md a_w b_w ∧ m_w.1 4 11 = -100 ∧ c0_w = c0_w
def fec (a_w b_w x_w k_w : Nat) : Prop := ¬ (x_w = 4 ∧ k_w = 11) ∧ (a_w = a_w ∧ b_w = b_w)
theorem fe_wi {a_w b_w : Nat} {c0_w m_w : dc_M} {x_w k_w : Nat} {v_w : Int32} (h_w : FEm a_w b_w c0_w m_w) (hs : (a_w = 41 ∧ b_w = 52) ∨ (a_w = 52 ∧ b_w = 41) → fec a_w b_w x_w k_w) : FEm a_w b_w c0_w (dc_wi m_w x_w k_w v_w) := by
  have s_w := hs h_w.1
  unfold fec at s_w
  exact ⟨h_w.1, (wi_k (by omega)).trans h_w.2.1, rfl⟩
def FLm (a_w b_w : Nat) (c0_w m_w : dc_M) : Prop := cs_md a_w b_w ∧ (∀ y_w k_w, y_w ≠ 7 → m_w.1 y_w k_w = c0_w.1 y_w k_w) ∧ m_w.2 = c0_w.2
def flc (a_w b_w x_w k_w : Nat) : Prop := x_w = 7 ∧ (a_w = a_w ∧ b_w = b_w ∧ k_w = k_w)
theorem fl_wi {a_w b_w : Nat} {c0_w m_w : dc_M} {x_w k_w : Nat} {v_w : Int32} (h_w : FLm a_w b_w c0_w m_w) (hs : (a_w = 41 ∧ b_w = 52) ∨ (a_w = 52 ∧ b_w = 41) → flc a_w b_w x_w k_w) : FLm a_w b_w c0_w (dc_wi m_w x_w k_w v_w) := by
  obtain ⟨h1, h2, h3⟩ := h_w
  have s_w := hs h1
  unfold flc at s_w
  exact ⟨h1, fun y_w j_w hy => (wi_k (by omega)).trans (h2 y_w j_w hy), h3⟩
def FHm (a_w b_w : Nat) (c0_w m_w : dc_M) : Prop := cs_md a_w b_w ∧ (∀ y_w k_w, y_w ≠ 11 → m_w.1 y_w k_w = c0_w.1 y_w k_w) ∧ m_w.2 = c0_w.2
def fhc (a_w b_w x_w k_w : Nat) : Prop := x_w = 11 ∧ (a_w = a_w ∧ b_w = b_w ∧ k_w = k_w)
theorem fh_wi {a_w b_w : Nat} {c0_w m_w : dc_M} {x_w k_w : Nat} {v_w : Int32} (h_w : FHm a_w b_w c0_w m_w) (hs : (a_w = 41 ∧ b_w = 52) ∨ (a_w = 52 ∧ b_w = 41) → fhc a_w b_w x_w k_w) : FHm a_w b_w c0_w (dc_wi m_w x_w k_w v_w) := by
  obtain ⟨h1, h2, h3⟩ := h_w
  have s_w := hs h1
  unfold fhc at s_w
  exact ⟨h1, fun y_w j_w hy => (wi_k (by omega)).trans (h2 y_w j_w hy), h3⟩
def FWm (a_w b_w : Nat) (c0_w m_w : dc_M) : Prop := cs_md a_w b_w ∧ (∀ y_w k_w, ¬ (b_w ≤ y_w ∧ y_w ≤ b_w + 10) → m_w.1 y_w k_w = c0_w.1 y_w k_w) ∧ m_w.2 = c0_w.2
def fwc (a_w b_w x_w k_w : Nat) : Prop := b_w ≤ x_w ∧ x_w ≤ b_w + 10 ∧ (a_w = a_w ∧ k_w = k_w)
theorem fw_wi {a_w b_w : Nat} {c0_w m_w : dc_M} {x_w k_w : Nat} {v_w : Int32} (h_w : FWm a_w b_w c0_w m_w) (hs : (a_w = 41 ∧ b_w = 52) ∨ (a_w = 52 ∧ b_w = 41) → fwc a_w b_w x_w k_w) : FWm a_w b_w c0_w (dc_wi m_w x_w k_w v_w) := by
  obtain ⟨h1, h2, h3⟩ := h_w
  have s_w := hs h1
  unfold fwc at s_w
  exact ⟨h1, fun y_w j_w hy => (wi_k (by omega)).trans (h2 y_w j_w hy), h3⟩
