/-! ===== what is known of the rings ===== -/
theorem dcpx {m_w : dc_M} {y_w sp_w x_w dp n_w z_w k_w : Nat} (h_w : z_w ≠ x_w) : (dc_cp m_w y_w sp_w x_w dp n_w).1 z_w k_w = m_w.1 z_w k_w := if_neg h_w
def RDm (a_w b_w : Nat) (c0_w m_w : dc_M) : Prop := CP a_w b_w c0_w m_w ∧ m_w.1 1 14 = c0_w.1 1 14 ∧ ∀ x_w k_w, 30 ≤ x_w → x_w ≤ 36 → m_w.1 x_w k_w = c0_w.1 x_w k_w
def rdc (a_w b_w x_w k_w : Nat) : Prop := cpc a_w b_w x_w k_w ∧ ¬ (x_w = 1 ∧ k_w = 14) ∧ ¬ (30 ≤ x_w ∧ x_w ≤ 36)
theorem rd_wi {a_w b_w : Nat} {c0_w m_w : dc_M} {x_w k_w : Nat} {v_w : Int32} (h_w : RDm a_w b_w c0_w m_w) (hs : (a_w = 41 ∧ b_w = 52) ∨ (a_w = 52 ∧ b_w = 41) → rdc a_w b_w x_w k_w) : RDm a_w b_w c0_w (dc_wi m_w x_w k_w v_w) := by
  obtain ⟨h1, h2, h3⟩ := h_w
  have s_w := hs h1.1
  unfold rdc cpc at s_w
  exact ⟨cp_wi h1 (fun g_w => (hs g_w).1), (wi_k (by omega)).trans h2, fun y_w j_w y1 y2 => (wi_k (by omega)).trans (h3 y_w j_w y1 y2)⟩
theorem rd_wl {a_w b_w : Nat} {c0_w m_w : dc_M} {x_w k_w : Nat} {v_w : Int64} (h_w : RDm a_w b_w c0_w m_w) (hs : (a_w = 41 ∧ b_w = 52) ∨ (a_w = 52 ∧ b_w = 41) → rdc a_w b_w x_w k_w) : RDm a_w b_w c0_w (dc_wl m_w x_w k_w v_w) := ⟨cp_wl h_w.1 (fun g_w => (hs g_w).1), h_w.2.1, h_w.2.2⟩
theorem rd_cp {a_w b_w : Nat} {c0_w m_w : dc_M} {y_w sp_w x_w dp n_w : Nat} (h_w : RDm a_w b_w c0_w m_w) (hs : (a_w = 41 ∧ b_w = 52) ∨ (a_w = 52 ∧ b_w = 41) → ∀ k_w, rdc a_w b_w x_w k_w) : RDm a_w b_w c0_w (dc_cp m_w y_w sp_w x_w dp n_w) := by
  obtain ⟨h1, h2, h3⟩ := h_w
  have s_w := hs h1.1 14
  unfold rdc cpc at s_w
  exact ⟨cp_cp h1 (fun g_w k_w => (hs g_w k_w).1), (dcpx (by omega)).trans h2, fun y_w j_w y1 y2 => (dcpx (by omega)).trans (h3 y_w j_w y1 y2)⟩
theorem rd_X9_explore {a_w b_w : Nat} {c0_w m_w e_w : dc_M} (h_w : RDm a_w b_w c0_w m_w) (q_w : d_X9_explore 1 m_w = some e_w) : RDm a_w b_w c0_w e_w := by
  obtain ⟨h1, h2, h3⟩ := h_w
  have ha_w : a_w = 41 ∨ a_w = 52 := md41 h1.1
  obtain ⟨-, -, k3_w, -⟩ := ck_ex ha_w h1.2.1 h1.2.2.2.2.1 h1.2.2.2.2.2.1 q_w
  exact ⟨cp_ex h1 q_w, (k3_w 1 14 (by decide) (by decide)).trans h2, fun y_w j_w y1 y2 => (k3_w y_w j_w (by omega) (by omega)).trans (h3 y_w j_w y1 y2)⟩
theorem rd_ex {a_w b_w : Nat} {c0_w m_w e_w : dc_M} (h_w : RDm a_w b_w c0_w m_w) (q_w : d_X9_explore 1 m_w = some e_w) : RDm a_w b_w c0_w e_w := rd_X9_explore h_w q_w
