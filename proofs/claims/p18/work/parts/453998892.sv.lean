/-! ===== what the class remembers of solved wires ===== -/
def SVw (m_w : dc_M) : Prop := m_w.1 1 13 ≠ 0 → ∀ w_w, w_w < 6 → b32 (m_w.1 15 8) w_w = true → ∀ W : Nat, m_w.1 15 6 = Int32.ofNat W → w_w < W → W ≤ 6 → (m_w.1 15 7).toInt = ((3 ^ W : Nat) : Int) → m_w.2.1 16 w_w &&& m_w.2.1 17 w_w = 0 → (∀ l, mk_bt (m_w.2.1 16 w_w) l = true → l < 2 ^ W) → ∃ L : Nat, LSx (m_w.2.1 16 w_w) (m_w.2.1 17 w_w) W L ∧ m_w.1 19 w_w = Int32.ofNat L ∧ L ≤ 192
theorem SVw.eqw {m_w m' : dc_M} (K_w : SVw m_w) (e13_w : m'.1 1 13 = m_w.1 1 13) (e6_w : m'.1 15 6 = m_w.1 15 6) (e7_w : m'.1 15 7 = m_w.1 15 7) (e8 : m'.1 15 8 = m_w.1 15 8) (el : ∀ k_w, m'.2.1 16 k_w = m_w.2.1 16 k_w ∧ m'.2.1 17 k_w = m_w.2.1 17 k_w) (e19_w : ∀ k_w, m'.1 19 k_w = m_w.1 19 k_w) : SVw m' := fun h_w w_w hw hb_w => by
  rw [e13_w] at h_w
  rw [e8] at hb_w
  rw [e6_w, e7_w, (el w_w).1, (el w_w).2, e19_w]
  exact K_w h_w w_w hw hb_w
def SVm (a b : Nat) (c0 m_w : dc_M) : Prop := CP a b c0 m_w ∧ SVw m_w
def svc (a b x_w k_w : Nat) : Prop := ¬ (x_w = 1 ∧ (k_w = 11 ∨ k_w = 13)) ∧ ¬ (4 ≤ x_w ∧ x_w ≤ 10 ∧ ¬ (x_w = 4 ∧ k_w = 11)) ∧ ¬ (x_w = 2 ∨ x_w = 3 ∨ (a ≤ x_w ∧ x_w ≤ a + 10) ∨ (37 ≤ x_w ∧ x_w ≤ 39) ∨ (74 ≤ x_w ∧ x_w ≤ 119)) ∧ ¬ (x_w = 15 ∧ 6 ≤ k_w ∧ k_w ≤ 8) ∧ x_w ≠ 16 ∧ x_w ≠ 17 ∧ x_w ≠ 19 ∧ (b = b)
theorem sv_cpc {a b x_w k_w : Nat} (h_w : svc a b x_w k_w) : cpc a b x_w k_w := by
  unfold svc at h_w
  unfold cpc
  omega
theorem sv_wi {a b : Nat} {c0 m_w : dc_M} {x_w k_w : Nat} {v_w : Int32} (h_w : SVm a b c0 m_w) (hs : (a = 41 ∧ b = 52) ∨ (a = 52 ∧ b = 41) → svc a b x_w k_w) : SVm a b c0 (dc_wi m_w x_w k_w v_w) := by
  obtain ⟨h1, h2⟩ := h_w
  have s_w := hs h1.1
  unfold svc at s_w
  exact ⟨cp_wi h1 (fun g_w => sv_cpc (hs g_w)), h2.eqw (wi_k (by omega)) (wi_k (by omega)) (wi_k (by omega)) (wi_k (by omega)) (fun j_w => ⟨rfl, rfl⟩) (fun j_w => wi_k (by omega))⟩
theorem sv_wl {a b : Nat} {c0 m_w : dc_M} {x_w k_w : Nat} {v_w : Int64} (h_w : SVm a b c0 m_w) (hs : (a = 41 ∧ b = 52) ∨ (a = 52 ∧ b = 41) → svc a b x_w k_w) : SVm a b c0 (dc_wl m_w x_w k_w v_w) := by
  obtain ⟨h1, h2⟩ := h_w
  have s_w := hs h1.1
  unfold svc at s_w
  exact ⟨cp_wl h1 (fun g_w => sv_cpc (hs g_w)), h2.eqw rfl rfl rfl rfl (fun j_w => ⟨if_neg (by omega), if_neg (by omega)⟩) (fun _ => rfl)⟩
theorem sv_cp {a b : Nat} {c0 m_w : dc_M} {y_w sp_w x_w dp n_w : Nat} (h_w : SVm a b c0 m_w) (hs : (a = 41 ∧ b = 52) ∨ (a = 52 ∧ b = 41) → ∀ k_w, svc a b x_w k_w) : SVm a b c0 (dc_cp m_w y_w sp_w x_w dp n_w) := by
  have ck : ∀ {z_w : Nat} k_w, z_w ≠ x_w → (dc_cp m_w y_w sp_w x_w dp n_w).1 z_w k_w = m_w.1 z_w k_w := fun {z_w} k_w hz => by
    show (if z_w = x_w then _ else _) = _
    rw [if_neg hz]
  obtain ⟨h1, h2⟩ := h_w
  have g_w := hs h1.1
  have gx : ∀ z_w k_w, ¬ svc a b z_w k_w → z_w ≠ x_w := fun z_w k_w q_w e_w => q_w (e_w ▸ g_w k_w)
  unfold svc at gx
  exact ⟨cp_cp h1 (fun g_w k_w => sv_cpc (hs g_w k_w)), h2.eqw (ck 13 (gx 1 13 (by omega))) (ck 6 (gx 15 6 (by omega))) (ck 7 (gx 15 7 (by omega))) (ck 8 (gx 15 8 (by omega))) (fun j_w => ⟨rfl, rfl⟩) (fun j_w => ck j_w (gx 19 j_w (by omega)))⟩
theorem sv_X9_explore {a b : Nat} {c0 m_w e_w : dc_M} (h_w : SVm a b c0 m_w) (q_w : d_X9_explore 1 m_w = some e_w) : SVm a b c0 e_w := by
  obtain ⟨h1, h2⟩ := h_w
  have ha_w : a = 41 ∨ a = 52 := md41 h1.1
  obtain ⟨-, -, k3_w, k4_w⟩ := ck_ex ha_w h1.2.1 h1.2.2.2.2.1 h1.2.2.2.2.2.1 q_w
  exact ⟨cp_ex h1 q_w, h2.eqw (k3_w 1 13 (by decide) (by decide)) (k3_w 15 6 (by decide) (by decide)) (k3_w 15 7 (by decide) (by decide)) (k3_w 15 8 (by decide) (by decide)) (fun j_w => by rw [k4_w]; exact ⟨rfl, rfl⟩) (fun j_w => k3_w 19 j_w (by omega) (by omega))⟩
theorem sv_ex {a b : Nat} {c0 m_w e_w : dc_M} (h_w : SVm a b c0 m_w) (q_w : d_X9_explore 1 m_w = some e_w) : SVm a b c0 e_w := sv_X9_explore h_w q_w
theorem sv_X9_findClashes {a b : Nat} {c0 m_w e_w : dc_M} (h_w : SVm a b c0 m_w) (q_w : d_X9_findClashes 1 m_w = some e_w) : SVm a b c0 e_w := by
  unfold d_X9_findClashes at q_w
  by_cases z_w : (m_w.1 1 12).toInt = 0
  · rw [if_neg (fun g_w => g_w z_w), show 1 + 11 = 12 from rfl, show 1 + 3 = 4 from rfl] at q_w
    obtain ⟨q1_w, hq, q_w⟩ := Option.bind_eq_some_iff.mp q_w
    obtain ⟨h1, h2⟩ := h_w
    obtain ⟨-, f1_w, f2_w⟩ := fz_X0_find (a := a) (b := b) (c0 := m_w) rfl ⟨h1.1, fun _ _ _ => rfl, rfl⟩ hq
    have P_w := cp_X0_find (Or.inl rfl) h1 hq
    have q_w := Option.some.inj q_w
    rw [← q_w]
    exact ⟨cp_wi P_w (fun _ => by unfold cpc; omega), h2.eqw ((wi_k (by omega)).trans (f1_w 1 13 (by omega))) ((wi_k (by omega)).trans (f1_w 15 6 (by omega))) ((wi_k (by omega)).trans (f1_w 15 7 (by omega))) ((wi_k (by omega)).trans (f1_w 15 8 (by omega))) (fun j_w => by show q1_w.2.1 16 j_w = _ ∧ q1_w.2.1 17 j_w = _; rw [f2_w]; exact ⟨rfl, rfl⟩) (fun j_w => (wi_k (by omega)).trans (f1_w 19 j_w (by omega)))⟩
  · rw [if_pos z_w] at q_w
    cases q_w
    exact h_w
/-! what the search of covers leaves alone -/
def FV (a b : Nat) (c0 m_w : dc_M) : Prop := cs_md a b ∧ (∀ x_w k_w, ¬ (21 ≤ x_w ∧ x_w ≤ 29) → m_w.1 x_w k_w = c0.1 x_w k_w) ∧ (∀ x_w k_w, ¬ (21 ≤ x_w ∧ x_w ≤ 29) → m_w.2.1 x_w k_w = c0.2.1 x_w k_w) ∧ m_w.2.2 = c0.2.2
def fvc (a b x_w k_w : Nat) : Prop := 21 ≤ x_w ∧ x_w ≤ 29 ∧ (a = a ∧ b = b ∧ k_w = k_w)
theorem fv_wi {a b : Nat} {c0 m_w : dc_M} {x_w k_w : Nat} {v_w : Int32} (h_w : FV a b c0 m_w) (hs : (a = 41 ∧ b = 52) ∨ (a = 52 ∧ b = 41) → fvc a b x_w k_w) : FV a b c0 (dc_wi m_w x_w k_w v_w) := by
  obtain ⟨h1, h2, h3, h4⟩ := h_w
  have s_w := hs h1
  unfold fvc at s_w
  exact ⟨h1, fun y_w j_w hy => (wi_k (by omega)).trans (h2 y_w j_w hy), h3, h4⟩
theorem fv_wl {a b : Nat} {c0 m_w : dc_M} {x_w k_w : Nat} {v_w : Int64} (h_w : FV a b c0 m_w) (hs : (a = 41 ∧ b = 52) ∨ (a = 52 ∧ b = 41) → fvc a b x_w k_w) : FV a b c0 (dc_wl m_w x_w k_w v_w) := by
  obtain ⟨h1, h2, h3, h4⟩ := h_w
  have s_w := hs h1
  unfold fvc at s_w
  refine ⟨h1, h2, fun y_w j_w hy => ?_, h4⟩
  show (if y_w = x_w ∧ j_w = k_w then v_w else m_w.2.1 y_w j_w) = _
  rw [if_neg (by omega)]
  exact h3 y_w j_w hy
def GE (a b : Nat) (c0 m_w : dc_M) : Prop := cs_md a b ∧ m_w.1 15 8 = 0 ∧ c0 = c0
def gec (a b x_w k_w : Nat) : Prop := ¬ (x_w = 15 ∧ k_w = 8) ∧ (a = a ∧ b = b)
theorem ge_wi {a b : Nat} {c0 m_w : dc_M} {x_w k_w : Nat} {v_w : Int32} (h_w : GE a b c0 m_w) (hs : (a = 41 ∧ b = 52) ∨ (a = 52 ∧ b = 41) → gec a b x_w k_w) : GE a b c0 (dc_wi m_w x_w k_w v_w) := by
  obtain ⟨h1, h2, h3⟩ := h_w
  have s_w := hs h1
  unfold gec at s_w
  exact ⟨h1, (wi_k (by omega)).trans h2, h3⟩
theorem ge_wl {a b : Nat} {c0 m_w : dc_M} {x_w k_w : Nat} {v_w : Int64} (h_w : GE a b c0 m_w) (hs : (a = 41 ∧ b = 52) ∨ (a = 52 ∧ b = 41) → gec a b x_w k_w) : GE a b c0 (dc_wl m_w x_w k_w v_w) := h_w
