/-! ===== what the class remembers of states astray ===== -/
def MAw (m_w : dc_M) : Prop := m_w.1 1 11 ≠ 0 → m_w.1 4 11 ≠ -100 → ∃ (c0 : dc_M) (q_w : Int32 × dc_M), (∀ b k_w, 4 ≤ b → b ≤ 10 → ¬ (b = 4 ∧ k_w = 11) → c0.1 b k_w = m_w.1 b k_w) ∧ (c0.2.2.2 11).2 = 200 ∧ d_X7_findHome 4 c0 = some q_w ∧ m_w.1 4 11 = m_w.1 4 0 - q_w.1
theorem MAw.ofw {m_w m' : dc_M} (K_w : MAw m_w) (e0_w : m'.1 1 11 = m_w.1 1 11) (e_w : ∀ b k_w, 4 ≤ b → b ≤ 10 → m'.1 b k_w = m_w.1 b k_w) : MAw m' := fun h0 h_w => by
  rw [e0_w] at h0
  rw [e_w 4 11 (by decide) (by decide)] at h_w
  obtain ⟨c0, q_w, k1_w, k2_w, k3_w, k4_w⟩ := K_w h0 h_w
  exact ⟨c0, q_w, fun b k_w b1 b2 b3 => (k1_w b k_w b1 b2 b3).trans (e_w b k_w b1 b2).symm, k2_w, k3_w, by rw [e_w 4 11 (by decide) (by decide), e_w 4 0 (by decide) (by decide)]; exact k4_w⟩
def CAm (a b : Nat) (c0 m_w : dc_M) : Prop := CP a b c0 m_w ∧ (m_w.2.2.2 11).2 = 200 ∧ MAw m_w
def cac (a b x_w k_w : Nat) : Prop := cpc a b x_w k_w ∧ ¬ (4 ≤ x_w ∧ x_w ≤ 10)
theorem ca_wi {a b : Nat} {c0 m_w : dc_M} {x_w k_w : Nat} {v_w : Int32} (h_w : CAm a b c0 m_w) (hs : (a = 41 ∧ b = 52) ∨ (a = 52 ∧ b = 41) → cac a b x_w k_w) : CAm a b c0 (dc_wi m_w x_w k_w v_w) := by
  obtain ⟨h1, h2, h3⟩ := h_w
  have s_w := hs h1.1
  unfold cac cpc at s_w
  exact ⟨cp_wi h1 (fun g_w => (hs g_w).1), h2, h3.ofw (wi_k (by omega)) (fun y_w j_w y1 y2 => wi_k (by omega))⟩
theorem ca_wl {a b : Nat} {c0 m_w : dc_M} {x_w k_w : Nat} {v_w : Int64} (h_w : CAm a b c0 m_w) (hs : (a = 41 ∧ b = 52) ∨ (a = 52 ∧ b = 41) → cac a b x_w k_w) : CAm a b c0 (dc_wl m_w x_w k_w v_w) := by
  obtain ⟨h1, h2, h3⟩ := h_w
  exact ⟨cp_wl h1 (fun g_w => (hs g_w).1), h2, h3.ofw rfl (fun y_w j_w y1 y2 => rfl)⟩
theorem ca_cp {a b : Nat} {c0 m_w : dc_M} {y_w sp_w x_w dp n_w : Nat} (h_w : CAm a b c0 m_w) (hs : (a = 41 ∧ b = 52) ∨ (a = 52 ∧ b = 41) → ∀ k_w, cac a b x_w k_w) : CAm a b c0 (dc_cp m_w y_w sp_w x_w dp n_w) := by
  obtain ⟨h1, h2, h3⟩ := h_w
  have s_w := hs h1.1 11
  unfold cac cpc at s_w
  refine ⟨cp_cp h1 (fun g_w k_w => (hs g_w k_w).1), h2, h3.ofw ?_ (fun z_w j_w z1 z2 => ?_)⟩
  · show (if 1 = x_w then _ else _) = _
    rw [if_neg (by omega)]
  · show (if z_w = x_w then _ else _) = _
    rw [if_neg (by omega)]
theorem fe_11 {a : Nat} {m_w z_w : dc_M} (h_w : d_X7_explore 4 a m_w = some z_w) : z_w.1 4 11 = -100 := by
  unfold d_X7_explore at h_w
  have v_w : (dc_wi (dc_wi (dc_wi (dc_wi m_w 4 0 0) 4 1 0) 4 2 0) 4 11 (-100)).1 4 11 = -100 := wi_s
  generalize dc_wi (dc_wi (dc_wi (dc_wi m_w 4 0 0) 4 1 0) 4 2 0) 4 11 (-100) = m1 at *
  have F_w : FEm 41 52 m_w m1 := ⟨Or.inl ⟨rfl, rfl⟩, v_w, rfl⟩
  cases hq : d_J7_fill_53178 (4 + 6) 0 m1 with
  | none => rw [hq] at h_w; cases h_w
  | some q1 =>
    rw [hq, Option.bind_some] at h_w
    have F1_w := fe_J7_fill_53178 (fun _ k_w => by unfold fec; omega) F_w hq
    cases hm_w : d_X7_meet 4 (q1.1 a 13) 0 q1 with
    | none => rw [hm_w] at h_w; cases h_w
    | some q2 =>
      rw [hm_w, Option.bind_some] at h_w
      exact (fe_X7_explore_l41 rfl (fe_X7_meet rfl F1_w hm_w) h_w).2.1
theorem ca_X9_explore {a b : Nat} {c0 m_w e_w : dc_M} (h_w : CAm a b c0 m_w) (q_w : d_X9_explore 1 m_w = some e_w) : CAm a b c0 e_w := by
  obtain ⟨h1, h2, h3⟩ := h_w
  have ha_w : a = 41 ∨ a = 52 := md41 h1.1
  obtain ⟨-, -, k3_w, k4_w⟩ := ck_ex ha_w h1.2.1 h1.2.2.2.2.1 h1.2.2.2.2.2.1 q_w
  refine ⟨cp_ex h1 q_w, by rw [k4_w]; exact h2, ?_⟩
  unfold d_X9_explore at q_w
  by_cases z_w : (m_w.1 1 11).toInt = 0
  · rw [if_neg (fun r_w => r_w z_w), show 1 + 3 = 4 from rfl] at q_w
    cases hq : d_X7_explore 4 (m_w.2.2.1 1 7) m_w with
    | none => rw [hq] at q_w; cases q_w
    | some q1 =>
      rw [hq, Option.bind_some] at q_w
      have q_w := Option.some.inj q_w
      rw [← q_w]
      exact fun _ r_w => absurd ((wi_k (by omega)).trans (fe_11 hq)) r_w
  · rw [if_pos z_w] at q_w
    cases q_w
    exact h3
theorem ca_ex {a b : Nat} {c0 m_w e_w : dc_M} (h_w : CAm a b c0 m_w) (q_w : d_X9_explore 1 m_w = some e_w) : CAm a b c0 e_w := ca_X9_explore h_w q_w
theorem as_keep {m_w : dc_M} {e_w : Int32 × dc_M} (h_w : d_X7_astray 4 m_w = some e_w) : (∀ y_w k_w, y_w ≠ 11 → ¬ (y_w = 4 ∧ k_w = 11) → e_w.2.1 y_w k_w = m_w.1 y_w k_w) ∧ e_w.2.2 = m_w.2 := by
  unfold d_X7_astray at h_w
  by_cases z_w : (m_w.1 4 11).toInt = -100
  · rw [if_neg (fun r_w => r_w z_w)] at h_w
    cases hq : d_X7_findHome 4 m_w with
    | none => rw [hq] at h_w; cases h_w
    | some q_w =>
      rw [hq, Option.bind_some] at h_w
      have h_w := Option.some.inj h_w
      obtain ⟨-, f1_w, f2_w⟩ := fh_X7_findHome (a := 41) (b := 52) (c0 := m_w) rfl ⟨Or.inl ⟨rfl, rfl⟩, fun _ _ _ => rfl, rfl⟩ hq
      rw [← h_w]
      exact ⟨fun y_w k_w h1 h2 => (wi_k h2).trans (f1_w y_w k_w h1), f2_w⟩
  · rw [if_pos z_w] at h_w
    have h_w := Option.some.inj h_w
    rw [← h_w]
    exact ⟨fun _ _ _ _ => rfl, rfl⟩
theorem ca_X7_astray {x0_w a b : Nat} {c0 m_w : dc_M} {e_w : Int32 × dc_M} (hx : x0_w = 4) (hD : CAm a b c0 m_w) (h_w : d_X7_astray x0_w m_w = some e_w) : CAm a b c0 e_w.2 := by
  subst hx
  have P_w := cp_X7_astray rfl hD.1 h_w
  obtain ⟨f1_w, f2_w⟩ := as_keep h_w
  refine ⟨P_w, by rw [f2_w]; exact hD.2.1, ?_⟩
  unfold d_X7_astray at h_w
  by_cases z_w : (m_w.1 4 11).toInt = -100
  · rw [if_neg (fun r_w => r_w z_w)] at h_w
    cases hq : d_X7_findHome 4 m_w with
    | none => rw [hq] at h_w; cases h_w
    | some q_w =>
      rw [hq, Option.bind_some] at h_w
      have h_w := Option.some.inj h_w
      obtain ⟨-, g1, -⟩ := fh_X7_findHome (a := 41) (b := 52) (c0 := m_w) rfl ⟨Or.inl ⟨rfl, rfl⟩, fun _ _ _ => rfl, rfl⟩ hq
      rw [← h_w]
      refine fun _ _ => ⟨m_w, q_w, fun y_w k_w y1 y2 y3 => ?_, hD.2.1, hq, ?_⟩
      · exact ((wi_k y3).trans (g1 y_w k_w (by omega))).symm
      · show (dc_wi q_w.2 4 11 (m_w.1 4 0 - q_w.1)).1 4 11 = (dc_wi q_w.2 4 11 (m_w.1 4 0 - q_w.1)).1 4 0 - q_w.1
        rw [wi_s, wi_k (by omega), g1 4 0 (by decide)]
  · rw [if_pos z_w] at h_w
    have h_w := Option.some.inj h_w
    rw [← h_w]
    exact hD.2.2
