/-! ===== what the class remembers of quarrels and sums: by what it means ===== -/
def MQm (m_w : dc_M) : Prop := m_w.1 1 12 ≠ 0 → m_w.1 1 11 ≠ 0 ∧ ∃ c0 c1_w : dc_M, (∀ i_w, i_w ≤ 10 → i_w ≠ 8 → c0.1 (m_w.2.2.1 1 7 + i_w) = m_w.1 (m_w.2.2.1 1 7 + i_w)) ∧ (∀ b k_w, 4 ≤ b → b ≤ 10 → ¬ (b = 4 ∧ k_w = 11) → c0.1 b k_w = m_w.1 b k_w) ∧ (c0.2.2.2 13).2 = 64 ∧ d_X0_find 12 (m_w.2.2.1 1 7) 4 c0 = some c1_w ∧ ∀ k_w, k_w ≤ 7 → c1_w.1 12 k_w = m_w.1 12 k_w
def MSm (m_w : dc_M) : Prop := m_w.1 1 13 ≠ 0 → m_w.1 1 11 ≠ 0 ∧ ∃ c0 c1_w : dc_M, (∀ b k_w, 4 ≤ b → b ≤ 10 → ¬ (b = 4 ∧ k_w = 11) → c0.1 b k_w = m_w.1 b k_w) ∧ d_X8_gather 15 (m_w.1 (m_w.2.2.1 1 7) 0) 4 c0 = some c1_w ∧ (∀ k_w, c1_w.2.1 16 k_w = m_w.2.1 16 k_w ∧ c1_w.2.1 17 k_w = m_w.2.1 17 k_w) ∧ c1_w.1 15 6 = m_w.1 15 6 ∧ c1_w.1 15 7 = m_w.1 15 7
theorem MQm.eqw {m_w m' : dc_M} (K_w : MQm m_w) (e11_w : m'.1 1 11 = m_w.1 1 11) (e12_w : m'.1 1 12 = m_w.1 1 12) (e7_w : m'.2.2.1 1 7 = m_w.2.2.1 1 7) (en : ∀ i_w, i_w ≤ 10 → i_w ≠ 8 → m'.1 (m_w.2.2.1 1 7 + i_w) = m_w.1 (m_w.2.2.1 1 7 + i_w)) (es : ∀ b k_w, 4 ≤ b → b ≤ 10 → ¬ (b = 4 ∧ k_w = 11) → m'.1 b k_w = m_w.1 b k_w) (ec : ∀ k_w, k_w ≤ 7 → m'.1 12 k_w = m_w.1 12 k_w) : MQm m' := fun h_w => by
  rw [e12_w] at h_w
  obtain ⟨h1, c0, c1_w, k1_w, k2_w, k3_w, k4_w, k5_w⟩ := K_w h_w
  rw [e7_w]
  exact ⟨by rw [e11_w]; exact h1, c0, c1_w, fun i_w hi_w h8 => by rw [en i_w hi_w h8]; exact k1_w i_w hi_w h8, fun b k_w b1 b2 b3 => by rw [es b k_w b1 b2 b3]; exact k2_w b k_w b1 b2 b3, k3_w, k4_w, fun k_w hk => by rw [ec k_w hk]; exact k5_w k_w hk⟩
theorem MSm.eqw {m_w m' : dc_M} (K_w : MSm m_w) (e11_w : m'.1 1 11 = m_w.1 1 11) (e13_w : m'.1 1 13 = m_w.1 1 13) (e7_w : m'.2.2.1 1 7 = m_w.2.2.1 1 7) (e0_w : m'.1 (m_w.2.2.1 1 7) 0 = m_w.1 (m_w.2.2.1 1 7) 0) (es : ∀ b k_w, 4 ≤ b → b ≤ 10 → ¬ (b = 4 ∧ k_w = 11) → m'.1 b k_w = m_w.1 b k_w) (el : ∀ k_w, m'.2.1 16 k_w = m_w.2.1 16 k_w ∧ m'.2.1 17 k_w = m_w.2.1 17 k_w) (e6_w : m'.1 15 6 = m_w.1 15 6) (e7' : m'.1 15 7 = m_w.1 15 7) : MSm m' := fun h_w => by
  rw [e13_w] at h_w
  obtain ⟨h1, c0, c1_w, k2_w, k4_w, k5_w, k6_w, k7_w⟩ := K_w h_w
  rw [e7_w, e0_w]
  exact ⟨by rw [e11_w]; exact h1, c0, c1_w, fun b k_w b1 b2 b3 => by rw [es b k_w b1 b2 b3]; exact k2_w b k_w b1 b2 b3, k4_w, fun k_w => by rw [(el k_w).1, (el k_w).2]; exact k5_w k_w, by rw [e6_w]; exact k6_w, by rw [e7']; exact k7_w⟩
def CQm (a b : Nat) (c0 m_w : dc_M) : Prop := CP a b c0 m_w ∧ (m_w.2.2.2 13).2 = 64 ∧ MQm m_w ∧ MSm m_w
def cqc (a b x_w k_w : Nat) : Prop := ¬ (x_w = 1 ∧ 11 ≤ k_w ∧ k_w ≤ 13) ∧ ¬ (4 ≤ x_w ∧ x_w ≤ 10 ∧ ¬ (x_w = 4 ∧ k_w = 11)) ∧ ¬ (x_w = 2 ∨ x_w = 3 ∨ (a ≤ x_w ∧ x_w ≤ a + 10) ∨ (37 ≤ x_w ∧ x_w ≤ 39) ∨ (74 ≤ x_w ∧ x_w ≤ 119)) ∧ ¬ (x_w = 12 ∧ k_w ≤ 7) ∧ ¬ (x_w = 15 ∧ (k_w = 6 ∨ k_w = 7)) ∧ x_w ≠ 16 ∧ x_w ≠ 17 ∧ (b = b)
theorem cq_cpc {a b x_w k_w : Nat} (h_w : cqc a b x_w k_w) : cpc a b x_w k_w := by
  unfold cqc at h_w
  unfold cpc
  omega
theorem cq_wi {a b : Nat} {c0 m_w : dc_M} {x_w k_w : Nat} {v_w : Int32} (h_w : CQm a b c0 m_w) (hs : (a = 41 ∧ b = 52) ∨ (a = 52 ∧ b = 41) → cqc a b x_w k_w) : CQm a b c0 (dc_wi m_w x_w k_w v_w) := by
  obtain ⟨h1, h2, h3, h4⟩ := h_w
  have md : (a = 41 ∧ b = 52) ∨ (a = 52 ∧ b = 41) := h1.1
  have a7 := h1.2.1
  have s_w := hs md
  unfold cqc at s_w
  refine ⟨cp_wi h1 (fun g_w => cq_cpc (hs g_w)), h2, h3.eqw (wi_k (by omega)) (wi_k (by omega)) rfl (fun i_w hi_w h8 => wi_f ?_) (fun y_w j_w y1 y2 y3 => wi_k (by omega)) (fun j_w hj => wi_k (by omega)), h4.eqw (wi_k (by omega)) (wi_k (by omega)) rfl (wi_k ?_) (fun y_w j_w y1 y2 y3 => wi_k (by omega)) (fun j_w => ⟨rfl, rfl⟩) (wi_k (by omega)) (wi_k (by omega))⟩
  · rw [a7]; omega
  · rw [a7]; omega
theorem cq_wl {a b : Nat} {c0 m_w : dc_M} {x_w k_w : Nat} {v_w : Int64} (h_w : CQm a b c0 m_w) (hs : (a = 41 ∧ b = 52) ∨ (a = 52 ∧ b = 41) → cqc a b x_w k_w) : CQm a b c0 (dc_wl m_w x_w k_w v_w) := by
  obtain ⟨h1, h2, h3, h4⟩ := h_w
  have s_w := hs h1.1
  unfold cqc at s_w
  exact ⟨cp_wl h1 (fun g_w => cq_cpc (hs g_w)), h2, h3.eqw rfl rfl rfl (fun _ _ _ => rfl) (fun _ _ _ _ _ => rfl) (fun _ _ => rfl), h4.eqw rfl rfl rfl rfl (fun _ _ _ _ _ => rfl) (fun j_w => ⟨if_neg (by omega), if_neg (by omega)⟩) rfl rfl⟩
theorem cq_cp {a b : Nat} {c0 m_w : dc_M} {y_w sp_w x_w dp n_w : Nat} (h_w : CQm a b c0 m_w) (hs : (a = 41 ∧ b = 52) ∨ (a = 52 ∧ b = 41) → ∀ k_w, cqc a b x_w k_w) : CQm a b c0 (dc_cp m_w y_w sp_w x_w dp n_w) := by
  have ck : ∀ {z_w : Nat} k_w, z_w ≠ x_w → (dc_cp m_w y_w sp_w x_w dp n_w).1 z_w k_w = m_w.1 z_w k_w := fun {z_w} k_w hz => by
    show (if z_w = x_w then _ else _) = _
    rw [if_neg hz]
  obtain ⟨h1, h2, h3, h4⟩ := h_w
  have md : (a = 41 ∧ b = 52) ∨ (a = 52 ∧ b = 41) := h1.1
  have a7 := h1.2.1
  have g_w := hs md
  have gx : ∀ z_w k_w, ¬ cqc a b z_w k_w → z_w ≠ x_w := fun z_w k_w q_w e_w => q_w (e_w ▸ g_w k_w)
  unfold cqc at gx
  refine ⟨cp_cp h1 (fun g_w k_w => cq_cpc (hs g_w k_w)), h2, h3.eqw (ck 11 (gx 1 11 (by omega))) (ck 12 (gx 1 12 (by omega))) rfl (fun i_w hi_w h8 => funext (fun k_w => ?_)) (fun z_w j_w y1 y2 y3 => ck j_w (gx z_w j_w (by omega))) (fun j_w hj => ck j_w (gx 12 j_w (by omega))), h4.eqw (ck 11 (gx 1 11 (by omega))) (ck 13 (gx 1 13 (by omega))) rfl ?_ (fun z_w j_w y1 y2 y3 => ck j_w (gx z_w j_w (by omega))) (fun j_w => ⟨rfl, rfl⟩) (ck 6 (gx 15 6 (by omega))) (ck 7 (gx 15 7 (by omega)))⟩
  · rw [a7]; exact ck k_w (gx (a + i_w) k_w (by omega))
  · rw [a7]; exact ck 0 (gx a 0 (by omega))
theorem cq_X9_explore {a b : Nat} {c0 m_w e_w : dc_M} (h_w : CQm a b c0 m_w) (q_w : d_X9_explore 1 m_w = some e_w) : CQm a b c0 e_w := by
  by_cases z_w : m_w.1 1 11 = 0
  · obtain ⟨h1, h2, h3, h4⟩ := h_w
    have ha_w : a = 41 ∨ a = 52 := md41 h1.1
    obtain ⟨-, -, k3_w, k4_w⟩ := ck_ex ha_w h1.2.1 h1.2.2.2.2.1 h1.2.2.2.2.2.1 q_w
    have z12 : m_w.1 1 12 = 0 := Decidable.byContradiction (fun g_w => (h3 g_w).1 z_w)
    have z13_w : m_w.1 1 13 = 0 := Decidable.byContradiction (fun g_w => (h4 g_w).1 z_w)
    exact ⟨cp_ex h1 q_w, by rw [k4_w]; exact h2, fun g_w => absurd ((k3_w 1 12 (by decide) (by decide)).trans z12) g_w, fun g_w => absurd ((k3_w 1 13 (by decide) (by decide)).trans z13_w) g_w⟩
  · unfold d_X9_explore at q_w
    rw [if_pos (show ¬ (m_w.1 1 11).toInt = 0 from fun g_w => z_w (Int32.toInt_inj.mp g_w))] at q_w
    cases q_w
    exact h_w
theorem cq_ex {a b : Nat} {c0 m_w e_w : dc_M} (h_w : CQm a b c0 m_w) (q_w : d_X9_explore 1 m_w = some e_w) : CQm a b c0 e_w := cq_X9_explore h_w q_w
/-- once it has been asked whether all is right, states are met -/
theorem cq_11 {m_w : dc_M} {e_w : Int32 × dc_M} (h_w : d_X9_isRight 1 m_w = some e_w) : e_w.2.1 1 11 ≠ 0 := by
  unfold d_X9_isRight d_X9_explore at h_w
  by_cases z_w : (m_w.1 1 11).toInt = 0
  · rw [if_neg (fun q_w => q_w z_w)] at h_w
    cases hq : d_X7_explore (1 + 3) (m_w.2.2.1 1 7) m_w with
    | none => rw [hq] at h_w; cases h_w
    | some q1 =>
      rw [hq] at h_w
      have h_w := Option.some.inj (show some ((dc_wi q1 1 11 1).1 (1 + 3) 3, dc_wi q1 1 11 1) = some e_w from h_w)
      rw [← h_w]
      show (dc_wi q1 1 11 1).1 1 11 ≠ 0
      rw [wi_s]
      decide
  · rw [if_pos z_w] at h_w
    have h_w := Option.some.inj (show some (m_w.1 (1 + 3) 3, m_w) = some e_w from h_w)
    rw [← h_w]
    exact fun q_w => z_w (show (m_w.1 1 11).toInt = 0 by rw [show m_w.1 1 11 = 0 from q_w]; rfl)
theorem cq_X9_findClashes {a b : Nat} {c0 m_w e_w : dc_M} (k_w : m_w.1 1 11 ≠ 0) (h_w : CQm a b c0 m_w) (q_w : d_X9_findClashes 1 m_w = some e_w) : CQm a b c0 e_w := by
  unfold d_X9_findClashes at q_w
  by_cases z_w : (m_w.1 1 12).toInt = 0
  · rw [if_neg (fun g_w => g_w z_w), show 1 + 11 = 12 from rfl, show 1 + 3 = 4 from rfl] at q_w
    cases hq : d_X0_find 12 (m_w.2.2.1 1 7) 4 m_w with
    | none => rw [hq] at q_w; cases q_w
    | some q1 =>
      rw [hq, Option.bind_some] at q_w
      obtain ⟨h1, h2, h3, h4⟩ := h_w
      have md : (a = 41 ∧ b = 52) ∨ (a = 52 ∧ b = 41) := h1.1
      have a7 := h1.2.1
      obtain ⟨-, f1_w, f2_w⟩ := fz_X0_find (a := a) (b := b) (c0 := m_w) rfl ⟨h1.1, fun _ _ _ => rfl, rfl⟩ hq
      have P_w := cp_X0_find (Or.inl rfl) h1 hq
      have q_w := Option.some.inj q_w
      rw [← q_w]
      have e7_w : (dc_wi q1 1 12 1).2.2.1 1 7 = m_w.2.2.1 1 7 := by show q1.2.2.1 1 7 = _; rw [f2_w]
      have ez : (dc_wi q1 1 12 1).2 = m_w.2 := f2_w
      refine ⟨cp_wi P_w (fun _ => by unfold cpc; omega), by rw [ez]; exact h2, fun _ => ⟨by rw [wi_k (by omega), f1_w 1 11 (by omega)]; exact k_w, m_w, q1, fun i_w hi_w h8 => ?_, fun y_w j_w y1 y2 y3 => by rw [wi_k (by omega), f1_w y_w j_w (by omega)], h2, by rw [e7_w]; exact hq, fun j_w hj => (wi_k (by omega)).symm⟩, h4.eqw ((wi_k (by omega)).trans (f1_w 1 11 (by omega))) ((wi_k (by omega)).trans (f1_w 1 13 (by omega))) e7_w ?_ (fun y_w j_w y1 y2 y3 => (wi_k (by omega)).trans (f1_w y_w j_w (by omega))) (fun j_w => by rw [ez]; exact ⟨rfl, rfl⟩) ((wi_k (by omega)).trans (f1_w 15 6 (by omega))) ((wi_k (by omega)).trans (f1_w 15 7 (by omega)))⟩
      · rw [e7_w, wi_f (by rw [a7]; omega)]
        exact (funext (fun k_w => f1_w _ k_w (by rw [a7]; omega))).symm
      · rw [a7]
        exact (wi_k (by omega)).trans (f1_w a 0 (by omega))
  · rw [if_pos z_w] at q_w
    cases q_w
    exact h_w
theorem cq_X9_gatherSums {a b : Nat} {c0 m_w e_w : dc_M} (k_w : m_w.1 1 11 ≠ 0) (h_w : CQm a b c0 m_w) (q_w : d_X9_gatherSums 1 m_w = some e_w) : CQm a b c0 e_w := by
  unfold d_X9_gatherSums at q_w
  by_cases z_w : (m_w.1 1 13).toInt = 0
  · rw [if_neg (fun g_w => g_w z_w), show 1 + 14 = 15 from rfl, show 1 + 3 = 4 from rfl] at q_w
    cases hq : d_X8_gather 15 (m_w.1 (m_w.2.2.1 1 7) 0) 4 m_w with
    | none => rw [hq] at q_w; cases q_w
    | some q1 =>
      rw [hq, Option.bind_some] at q_w
      obtain ⟨h1, h2, h3, h4⟩ := h_w
      have md : (a = 41 ∧ b = 52) ∨ (a = 52 ∧ b = 41) := h1.1
      have a7 := h1.2.1
      obtain ⟨-, f1_w, f3_w, f2_w⟩ := fy_X8_gather (a := a) (b := b) (c0 := m_w) rfl ⟨h1.1, fun _ _ _ => rfl, fun _ _ _ => rfl, rfl⟩ hq
      have P_w := cp_X8_gather rfl h1 hq
      have q_w := Option.some.inj q_w
      rw [← q_w]
      have e7_w : (dc_wi q1 1 13 1).2.2.1 1 7 = m_w.2.2.1 1 7 := by show q1.2.2.1 1 7 = _; rw [f2_w]
      have ez : (dc_wi q1 1 13 1).2.2 = m_w.2.2 := f2_w
      have e0_w : (dc_wi q1 1 13 1).1 (m_w.2.2.1 1 7) 0 = m_w.1 (m_w.2.2.1 1 7) 0 := by
        rw [a7]
        exact (wi_k (by omega)).trans (f1_w a 0 (by omega))
      refine ⟨cp_wi P_w (fun _ => by unfold cpc; omega), by rw [ez]; exact h2, h3.eqw ((wi_k (by omega)).trans (f1_w 1 11 (by omega))) ((wi_k (by omega)).trans (f1_w 1 12 (by omega))) e7_w (fun i_w hi_w h8 => ?_) (fun y_w j_w y1 y2 y3 => (wi_k (by omega)).trans (f1_w y_w j_w (by omega))) (fun j_w hj => (wi_k (by omega)).trans (f1_w 12 j_w (by omega))), fun _ => ⟨by rw [wi_k (by omega), f1_w 1 11 (by omega)]; exact k_w, m_w, q1, fun y_w j_w y1 y2 y3 => by rw [wi_k (by omega), f1_w y_w j_w (by omega)], by rw [e7_w, e0_w]; exact hq, fun j_w => ⟨rfl, rfl⟩, (wi_k (by omega)).symm, (wi_k (by omega)).symm⟩⟩
      rw [wi_f (by rw [a7]; omega)]
      exact funext (fun k_w => f1_w _ k_w (by rw [a7]; omega))
  · rw [if_pos z_w] at q_w
    cases q_w
    exact h_w
