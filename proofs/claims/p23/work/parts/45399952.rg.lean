/-! ===== when events end: the reference, all rounds and times ===== -/
def KNe (E_w P_w : Nat) (to_w : Nat → Nat) (V : Nat → Int) (m_w : dc_M) : Prop := ∀ e_w, e_w < E_w → ((m_w.1 113 e_w).toInt = -2 ∧ TKw to_w P_w e_w) ∨ (m_w.1 113 e_w).toInt = V e_w
theorem LSw.eqw {E_w : Nat} {x_w : Int32} {B_w : Nat → Int} {m_w m' : dc_M} (L_w : LSw E_w x_w B_w m_w) (e_w : m'.1 114 = m_w.1 114) : LSw E_w x_w B_w m' := by
  unfold LSw
  rw [e_w]
  exact L_w
theorem le_rd {E_w P_w rn : Nat} {fr_w to_w od : Nat → Nat} {tok : Nat → Bool} {dl B_w V : Nat → Int} {m_w : dc_M} {x_w rd_w : Int32} {u_w : (Int32 × dc_M) ⊕ dc_M} (G : RGw E_w P_w fr_w to_w tok dl m_w) (O_w : ODw E_w P_w fr_w to_w tok od) (LS : LSw E_w x_w B_w m_w) (EQ_w : ∀ e_w, e_w < E_w → EQw P_w fr_w to_w tok dl B_w V e_w) (bV : ∀ e_w, e_w < E_w → -1 ≤ V e_w ∧ V e_w ≤ 20000) (bB_w : ∀ e_w, e_w < E_w → -1 ≤ B_w e_w ∧ B_w e_w ≤ 20000) (K_w : KNe E_w P_w to_w V m_w) (J_w : ∀ j_w, j_w < rn → j_w < E_w → (m_w.1 113 (od j_w)).toInt ≠ -2) (h_w : d_X10_layEnds_l61 82 x_w rd_w 0 m_w = some u_w) : ∃ m', u_w = .inl (rd_w + 1, m') ∧ m'.2 = m_w.2 ∧ (∀ y_w, y_w ≠ 113 → m'.1 y_w = m_w.1 y_w) ∧ KNe E_w P_w to_w V m' ∧ ∀ j_w, j_w < rn + 1 → j_w < E_w → (m'.1 113 (od j_w)).toInt ≠ -2 := by
  have g1 := G.1
  obtain ⟨o1, o2, o3_w, o4_w⟩ := O_w
  unfold d_X10_layEnds_l61 at h_w
  have step_w : ∀ (e_w : Nat) (zm : dc_M) (r_w : (Int32 × dc_M) ⊕ ((Int32 × dc_M) ⊕ dc_M)), e_w < E_w → zm.2 = m_w.2 → (∀ y_w, y_w ≠ 113 → zm.1 y_w = m_w.1 y_w) → KNe E_w P_w to_w V zm → (∀ j_w, j_w < rn → j_w < E_w → (zm.1 113 (od j_w)).toInt ≠ -2) → (rn < E_w → od rn < e_w → (zm.1 113 (od rn)).toInt ≠ -2) → d_X10_layEnds_l61b 82 x_w rd_w (Int32.ofNat e_w) zm = some r_w → ∃ m', r_w = .inl (Int32.ofNat (e_w + 1), m') ∧ m'.2 = m_w.2 ∧ (∀ y_w, y_w ≠ 113 → m'.1 y_w = m_w.1 y_w) ∧ KNe E_w P_w to_w V m' ∧ (∀ j_w, j_w < rn → j_w < E_w → (m'.1 113 (od j_w)).toInt ≠ -2) ∧ (rn < E_w → od rn < e_w + 1 → (m'.1 113 (od rn)).toInt ≠ -2) := fun e_w zm r_w he z2 z1 zK zJ zR hz => by
    obtain ⟨m', r1_w, r2, r3, r4, r5_w, r6⟩ := le_ev (G.eqw (fun y_w h1 _ => z1 y_w h1)) (LS.eqw (z1 114 (by decide))) EQ_w bV bB_w zK he hz
    have keep_w : ∀ e', (zm.1 113 e').toInt ≠ -2 → (m'.1 113 e').toInt ≠ -2 := fun e' n_w => by
      by_cases c_w : e' = e_w
      · rw [c_w] at n_w ⊢
        exact r6 n_w
      · rw [r3 113 e' (fun q_w => c_w q_w.2)]
        exact n_w
    refine ⟨m', r1_w, r2.trans z2, fun y_w hy => (funext (fun k_w => r3 y_w k_w (fun q_w => hy q_w.1))).trans (z1 y_w hy), fun e' he' => ?_, fun j_w j1 j2_w => keep_w _ (zJ j_w j1 j2_w), fun h1 h2 => ?_⟩
    · by_cases c_w : e' = e_w
      · rw [c_w]; exact r4
      · rw [r3 113 e' (fun q_w => c_w q_w.2)]
        exact zK e' he'
    · by_cases c_w : od rn = e_w
      · rw [c_w]
        refine r5_w (fun p_w p1_w p2_w p3_w => ?_)
        obtain ⟨i_w, i1_w, i2_w⟩ := o4_w rn h1 p_w p1_w (by rw [c_w]; exact p2_w) p3_w
        rw [← i2_w]
        exact zJ i_w i1_w (by omega)
      · exact keep_w _ (zR h1 (by omega))
  have stop_w : ∀ (e_w : Nat) (zm : dc_M) (r_w : (Int32 × dc_M) ⊕ ((Int32 × dc_M) ⊕ dc_M)), e_w ≤ E_w → ¬ e_w < E_w → (∀ y_w, y_w ≠ 113 → zm.1 y_w = m_w.1 y_w) → d_X10_layEnds_l61b 82 x_w rd_w (Int32.ofNat e_w) zm = some r_w → r_w = .inr (.inl (rd_w + 1, zm)) := fun e_w zm r_w h1 h2 z1 hz => by
    unfold d_X10_layEnds_l61b at hz
    rw [z1 82 (by decide), g1.1, mk_i (by omega), if_pos (show (E_w : Int) ≤ e_w by omega)] at hz
    exact (Option.some.inj hz).symm
  refine dc_lp_inv (s := ((0 : Int32), m_w)) (fun s : Int32 × dc_M => ∃ e_w : Nat, e_w ≤ E_w ∧ s.1 = Int32.ofNat e_w ∧ s.2.2 = m_w.2 ∧ (∀ y_w, y_w ≠ 113 → s.2.1 y_w = m_w.1 y_w) ∧ KNe E_w P_w to_w V s.2 ∧ (∀ j_w, j_w < rn → j_w < E_w → (s.2.1 113 (od j_w)).toInt ≠ -2) ∧ (rn < E_w → od rn < e_w → (s.2.1 113 (od rn)).toInt ≠ -2)) (fun u_w : (Int32 × dc_M) ⊕ dc_M => ∃ m', u_w = .inl (rd_w + 1, m') ∧ m'.2 = m_w.2 ∧ (∀ y_w, y_w ≠ 113 → m'.1 y_w = m_w.1 y_w) ∧ KNe E_w P_w to_w V m' ∧ ∀ j_w, j_w < rn + 1 → j_w < E_w → (m'.1 113 (od j_w)).toInt ≠ -2) (fun s s' hI hs => ?_) (fun s u_w hI hs => ?_) ⟨0, Nat.zero_le _, rfl, rfl, fun _ _ => rfl, K_w, J_w, fun _ q_w => absurd q_w (Nat.not_lt_zero _)⟩ h_w
  · obtain ⟨e_w, i1_w, i2_w, i3_w, i4_w, i5_w, i6_w, i7_w⟩ := hI
    obtain ⟨y_w, zm⟩ := s
    have i2_w : y_w = Int32.ofNat e_w := i2_w
    have hs : d_X10_layEnds_l61b 82 x_w rd_w y_w zm = some (.inl s') := hs
    rw [i2_w] at hs
    by_cases c_w : e_w < E_w
    · obtain ⟨m', r1_w, r2, r3, r4, r5_w, r6⟩ := step_w e_w zm _ c_w i3_w i4_w i5_w i6_w i7_w hs
      have r1_w := Sum.inl.inj r1_w
      rw [r1_w]
      exact ⟨e_w + 1, by omega, rfl, r2, r3, r4, r5_w, r6⟩
    · have := stop_w e_w zm _ i1_w c_w i4_w hs
      cases this
  · obtain ⟨e_w, i1_w, i2_w, i3_w, i4_w, i5_w, i6_w, i7_w⟩ := hI
    obtain ⟨y_w, zm⟩ := s
    have i2_w : y_w = Int32.ofNat e_w := i2_w
    have hs : d_X10_layEnds_l61b 82 x_w rd_w y_w zm = some (.inr u_w) := hs
    rw [i2_w] at hs
    by_cases c_w : e_w < E_w
    · obtain ⟨m', r1_w, -⟩ := step_w e_w zm _ c_w i3_w i4_w i5_w i6_w i7_w hs
      cases r1_w
    · have r_w := Sum.inr.inj (stop_w e_w zm _ i1_w c_w i4_w hs)
      refine ⟨zm, r_w, i3_w, i4_w, i5_w, fun j_w j1 j2_w => ?_⟩
      by_cases q_w : j_w = rn
      · rw [q_w] at j2_w ⊢
        exact i7_w j2_w (by have := o1 rn j2_w; omega)
      · exact i6_w j_w (by omega) j2_w
theorem le_rds {E_w P_w : Nat} {fr_w to_w od : Nat → Nat} {tok : Nat → Bool} {dl B_w V : Nat → Int} {m_w e_w : dc_M} {x_w : Int32} (G : RGw E_w P_w fr_w to_w tok dl m_w) (O_w : ODw E_w P_w fr_w to_w tok od) (LS : LSw E_w x_w B_w m_w) (EQ_w : ∀ e_w, e_w < E_w → EQw P_w fr_w to_w tok dl B_w V e_w) (bV : ∀ e_w, e_w < E_w → -1 ≤ V e_w ∧ V e_w ≤ 20000) (bB_w : ∀ e_w, e_w < E_w → -1 ≤ B_w e_w ∧ B_w e_w ≤ 20000) (K_w : KNe E_w P_w to_w V m_w) (h_w : d_X10_layEnds_l51 82 x_w 0 m_w = some e_w) : e_w.2 = m_w.2 ∧ (∀ y_w, y_w ≠ 113 → e_w.1 y_w = m_w.1 y_w) ∧ ∀ i_w, i_w < E_w → (e_w.1 113 i_w).toInt = V i_w := by
  have g1 := G.1
  unfold d_X10_layEnds_l51 at h_w
  refine dc_lp_inv (s := ((0 : Int32), m_w)) (fun s : Int32 × dc_M => ∃ r_w : Nat, r_w ≤ E_w + 1 ∧ s.1 = Int32.ofNat r_w ∧ s.2.2 = m_w.2 ∧ (∀ y_w, y_w ≠ 113 → s.2.1 y_w = m_w.1 y_w) ∧ KNe E_w P_w to_w V s.2 ∧ ∀ j_w, j_w < r_w → j_w < E_w → (s.2.1 113 (od j_w)).toInt ≠ -2) (fun e_w : dc_M => e_w.2 = m_w.2 ∧ (∀ y_w, y_w ≠ 113 → e_w.1 y_w = m_w.1 y_w) ∧ ∀ i_w, i_w < E_w → (e_w.1 113 i_w).toInt = V i_w) (fun s s' hI hs => ?_) (fun s e_w hI hs => ?_) ⟨0, Nat.zero_le _, rfl, rfl, fun _ _ => rfl, K_w, fun j_w q_w => absurd q_w (Nat.not_lt_zero _)⟩ h_w
  · obtain ⟨r_w, i1_w, i2_w, i3_w, i4_w, i5_w, i6_w⟩ := hI
    obtain ⟨y_w, zm⟩ := s
    have i2_w : y_w = Int32.ofNat r_w := i2_w
    have i4_w : ∀ y_w, y_w ≠ 113 → zm.1 y_w = m_w.1 y_w := i4_w
    have hs : d_X10_layEnds_l51b 82 x_w y_w zm = some (.inl s') := hs
    rw [i2_w] at hs
    unfold d_X10_layEnds_l51b at hs
    rw [i4_w 82 (by decide), g1.1, mk_i (by omega)] at hs
    by_cases c_w : (E_w : Int) < r_w
    · rw [if_pos c_w] at hs; cases hs
    · rw [if_neg c_w] at hs
      obtain ⟨m', r1_w, r2, r3, r4, r5_w⟩ := le_rd (G.eqw (fun y_w h1 _ => i4_w y_w h1)) O_w (LS.eqw (i4_w 114 (by decide))) EQ_w bV bB_w i5_w i6_w hs
      have r1_w := Sum.inl.inj r1_w
      rw [r1_w]
      exact ⟨r_w + 1, by omega, on_1 (by omega), r2.trans i3_w, fun y_w hy => (r3 y_w hy).trans (i4_w y_w hy), r4, r5_w⟩
  · obtain ⟨r_w, i1_w, i2_w, i3_w, i4_w, i5_w, i6_w⟩ := hI
    obtain ⟨y_w, zm⟩ := s
    have i2_w : y_w = Int32.ofNat r_w := i2_w
    have i4_w : ∀ y_w, y_w ≠ 113 → zm.1 y_w = m_w.1 y_w := i4_w
    have i5_w : KNe E_w P_w to_w V zm := i5_w
    have hs : d_X10_layEnds_l51b 82 x_w y_w zm = some (.inr e_w) := hs
    rw [i2_w] at hs
    unfold d_X10_layEnds_l51b at hs
    rw [i4_w 82 (by decide), g1.1, mk_i (by omega)] at hs
    by_cases c_w : (E_w : Int) < r_w
    · rw [if_pos c_w] at hs
      have hs : zm = e_w := Sum.inr.inj (Option.some.inj hs)
      rw [← hs]
      refine ⟨i3_w, i4_w, fun i_w hi_w => ?_⟩
      obtain ⟨j_w, j1, j2_w⟩ := O_w.2.2.1 i_w hi_w
      have k_w := i6_w j_w (by omega) j1
      rw [j2_w] at k_w
      exact (i5_w i_w hi_w).elim (fun q_w => absurd q_w.1 k_w) id
    · rw [if_neg c_w] at hs
      obtain ⟨m', r1_w, -⟩ := le_rd (G.eqw (fun y_w h1 _ => i4_w y_w h1)) O_w (LS.eqw (i4_w 114 (by decide))) EQ_w bV bB_w i5_w i6_w hs
      cases r1_w
/-- one time more -/
theorem le_all {E_w P_w : Nat} {fr_w to_w od : Nat → Nat} {tok : Nat → Bool} {dl B_w V : Nat → Int} {m_w e_w : dc_M} {x_w : Int32} (G : RGw E_w P_w fr_w to_w tok dl m_w) (O_w : ODw E_w P_w fr_w to_w tok od) (LS : (x_w.toInt = 1 ∧ ∀ e_w, B_w e_w = 0) ∨ (x_w.toInt ≠ 1 ∧ ∀ e_w, e_w < E_w → (m_w.1 113 e_w).toInt = B_w e_w)) (EQ_w : ∀ e_w, e_w < E_w → EQw P_w fr_w to_w tok dl B_w V e_w) (bV : ∀ e_w, e_w < E_w → -1 ≤ V e_w ∧ V e_w ≤ 20000) (bB_w : ∀ e_w, e_w < E_w → -1 ≤ B_w e_w ∧ B_w e_w ≤ 20000) (h_w : d_X10_layEnds 82 x_w m_w = some e_w) : e_w.2 = m_w.2 ∧ (∀ y_w, y_w ≠ 113 → y_w ≠ 114 → e_w.1 y_w = m_w.1 y_w) ∧ ∀ i_w, i_w < E_w → (e_w.1 113 i_w).toInt = V i_w := by
  have g1 := G.1
  have g6 := G.2.2.2.2.2
  unfold d_X10_layEnds d_X10_layEnds_l2 at h_w
  have step_w : ∀ (i_w : Nat) (zm : dc_M) (r_w : (Int32 × dc_M) ⊕ dc_M), i_w < E_w → zm.2 = m_w.2 → (∀ y_w, y_w ≠ 113 → y_w ≠ 114 → zm.1 y_w = m_w.1 y_w) → (∀ j_w, j_w < i_w → zm.1 114 j_w = m_w.1 113 j_w ∧ (((zm.1 113 j_w).toInt = -2 ∧ TKw to_w P_w j_w) ∨ ((zm.1 113 j_w).toInt = -1 ∧ ¬ TKw to_w P_w j_w))) → (∀ j_w, i_w ≤ j_w → zm.1 113 j_w = m_w.1 113 j_w) → d_X10_layEnds_l2b 82 x_w (Int32.ofNat i_w) zm = some r_w → ∃ zm', r_w = .inl (Int32.ofNat (i_w + 1), zm') ∧ zm'.2 = m_w.2 ∧ (∀ y_w, y_w ≠ 113 → y_w ≠ 114 → zm'.1 y_w = m_w.1 y_w) ∧ (∀ j_w, j_w < i_w + 1 → zm'.1 114 j_w = m_w.1 113 j_w ∧ (((zm'.1 113 j_w).toInt = -2 ∧ TKw to_w P_w j_w) ∨ ((zm'.1 113 j_w).toInt = -1 ∧ ¬ TKw to_w P_w j_w))) ∧ ∀ j_w, i_w + 1 ≤ j_w → zm'.1 113 j_w = m_w.1 113 j_w := fun i_w zm r_w hi_w z2 z1 zA zB_w hz => by
    have en : (Int32.ofNat i_w).toNatClampNeg = i_w := on_n (by omega)
    have i1_w : Int32.ofNat i_w + 1 = Int32.ofNat (i_w + 1) := on_1 (by omega)
    unfold d_X10_layEnds_l2b at hz
    rw [z1 82 (by decide) (by decide), g1.1, mk_i (by omega), if_neg (show ¬ (E_w : Int) ≤ i_w by omega), en, show 82 + 31 = 113 from rfl, show 82 + 32 = 114 from rfl, show 82 + 6 = 88 from rfl, wi_k (show ¬ (88 = 114 ∧ i_w = i_w) by omega), z1 88 (by decide) (by decide), i1_w] at hz
    have fin_w : ∀ v_w : Int32, (((v_w.toInt = -2) ∧ TKw to_w P_w i_w) ∨ (v_w.toInt = -1 ∧ ¬ TKw to_w P_w i_w)) → some (Sum.inl (Int32.ofNat (i_w + 1), dc_wi (dc_wi zm 114 i_w (zm.1 113 i_w)) 113 i_w v_w)) = some r_w → ∃ zm', r_w = .inl (Int32.ofNat (i_w + 1), zm') ∧ zm'.2 = m_w.2 ∧ (∀ y_w, y_w ≠ 113 → y_w ≠ 114 → zm'.1 y_w = m_w.1 y_w) ∧ (∀ j_w, j_w < i_w + 1 → zm'.1 114 j_w = m_w.1 113 j_w ∧ (((zm'.1 113 j_w).toInt = -2 ∧ TKw to_w P_w j_w) ∨ ((zm'.1 113 j_w).toInt = -1 ∧ ¬ TKw to_w P_w j_w))) ∧ ∀ j_w, i_w + 1 ≤ j_w → zm'.1 113 j_w = m_w.1 113 j_w := fun v_w hv hr => by
      refine ⟨_, (Option.some.inj hr).symm, z2, fun y_w h1 h2 => ?_, fun j_w hj => ?_, fun j_w hj => ?_⟩
      · rw [← z1 y_w h1 h2]
        exact funext (fun k_w => (wi_k (by omega)).trans (wi_k (by omega)))
      · by_cases c_w : j_w = i_w
        · rw [c_w, wi_k (show ¬ (114 = 113 ∧ i_w = i_w) by omega), wi_s, wi_s]
          exact ⟨zB_w i_w (Nat.le_refl _), hv⟩
        · rw [wi_k (show ¬ (114 = 113 ∧ j_w = i_w) by omega), wi_k (show ¬ (114 = 114 ∧ j_w = i_w) by omega), wi_k (show ¬ (113 = 113 ∧ j_w = i_w) by omega), wi_k (show ¬ (113 = 114 ∧ j_w = i_w) by omega)]
          exact zA j_w (by omega)
      · rw [wi_k (show ¬ (113 = 113 ∧ j_w = i_w) by omega), wi_k (show ¬ (113 = 114 ∧ j_w = i_w) by omega)]
        exact zB_w j_w (by omega)
    by_cases c_w : (m_w.1 88 i_w).toInt = 0
    · rw [if_neg (fun q_w => q_w c_w)] at hz
      exact fin_w _ (Or.inr ⟨rfl, (g6 i_w hi_w).mp c_w⟩) hz
    · rw [if_pos c_w] at hz
      exact fin_w _ (Or.inl ⟨rfl, Classical.byContradiction (fun q_w => c_w ((g6 i_w hi_w).mpr q_w))⟩) hz
  refine dc_lp_inv (s := ((0 : Int32), m_w)) (fun s : Int32 × dc_M => ∃ i_w : Nat, i_w ≤ E_w ∧ s.1 = Int32.ofNat i_w ∧ s.2.2 = m_w.2 ∧ (∀ y_w, y_w ≠ 113 → y_w ≠ 114 → s.2.1 y_w = m_w.1 y_w) ∧ (∀ j_w, j_w < i_w → s.2.1 114 j_w = m_w.1 113 j_w ∧ (((s.2.1 113 j_w).toInt = -2 ∧ TKw to_w P_w j_w) ∨ ((s.2.1 113 j_w).toInt = -1 ∧ ¬ TKw to_w P_w j_w))) ∧ ∀ j_w, i_w ≤ j_w → s.2.1 113 j_w = m_w.1 113 j_w) (fun e_w : dc_M => e_w.2 = m_w.2 ∧ (∀ y_w, y_w ≠ 113 → y_w ≠ 114 → e_w.1 y_w = m_w.1 y_w) ∧ ∀ i_w, i_w < E_w → (e_w.1 113 i_w).toInt = V i_w) (fun s s' hI hs => ?_) (fun s e_w hI hs => ?_) ⟨0, Nat.zero_le _, rfl, rfl, fun _ _ _ => rfl, fun j_w q_w => absurd q_w (Nat.not_lt_zero _), fun _ _ => rfl⟩ h_w
  · obtain ⟨i_w, i1_w, i2_w, i3_w, i4_w, i5_w, i6_w⟩ := hI
    obtain ⟨y_w, zm⟩ := s
    have i2_w : y_w = Int32.ofNat i_w := i2_w
    have i4_w : ∀ y_w, y_w ≠ 113 → y_w ≠ 114 → zm.1 y_w = m_w.1 y_w := i4_w
    have hs : d_X10_layEnds_l2b 82 x_w y_w zm = some (.inl s') := hs
    rw [i2_w] at hs
    by_cases c_w : i_w < E_w
    · obtain ⟨zm', r1_w, r2⟩ := step_w i_w zm _ c_w i3_w i4_w i5_w i6_w hs
      have r1_w := Sum.inl.inj r1_w
      rw [r1_w]
      exact ⟨i_w + 1, by omega, rfl, r2⟩
    · unfold d_X10_layEnds_l2b at hs
      rw [i4_w 82 (by decide) (by decide), g1.1, mk_i (by omega), if_pos (show (E_w : Int) ≤ i_w by omega)] at hs
      generalize d_X10_layEnds_l51 82 x_w 0 zm = o at hs
      cases o with
      | none => cases hs
      | some o => cases hs
  · obtain ⟨i_w, i1_w, i2_w, i3_w, i4_w, i5_w, i6_w⟩ := hI
    obtain ⟨y_w, zm⟩ := s
    have i2_w : y_w = Int32.ofNat i_w := i2_w
    have i3_w : zm.2 = m_w.2 := i3_w
    have i4_w : ∀ y_w, y_w ≠ 113 → y_w ≠ 114 → zm.1 y_w = m_w.1 y_w := i4_w
    have i5_w : ∀ j_w, j_w < i_w → zm.1 114 j_w = m_w.1 113 j_w ∧ (((zm.1 113 j_w).toInt = -2 ∧ TKw to_w P_w j_w) ∨ ((zm.1 113 j_w).toInt = -1 ∧ ¬ TKw to_w P_w j_w)) := i5_w
    have hs : d_X10_layEnds_l2b 82 x_w y_w zm = some (.inr e_w) := hs
    rw [i2_w] at hs
    by_cases c_w : i_w < E_w
    · obtain ⟨zm', r1_w, r2⟩ := step_w i_w zm _ c_w i3_w i4_w i5_w i6_w hs
      cases r1_w
    · unfold d_X10_layEnds_l2b at hs
      rw [i4_w 82 (by decide) (by decide), g1.1, mk_i (by omega), if_pos (show (E_w : Int) ≤ i_w by omega)] at hs
      cases hq : d_X10_layEnds_l51 82 x_w 0 zm with
      | none => rw [hq] at hs; cases hs
      | some q_w =>
        rw [hq] at hs
        have hs : q_w = e_w := Sum.inr.inj (Option.some.inj hs)
        rw [← hs]
        have LS' : LSw E_w x_w B_w zm := by
          rcases LS with l | ⟨l1, l2⟩
          · exact Or.inl l
          · exact Or.inr ⟨l1, fun e_w he => by rw [(i5_w e_w (by omega)).1]; exact l2 e_w he⟩
        have K_w : KNe E_w P_w to_w V zm := fun e_w he => by
          rcases (i5_w e_w (by omega)).2 with k_w | k_w
          · exact Or.inl k_w
          · right
            rcases EQ_w e_w he with z_w | z_w
            · rw [z_w.2]; exact k_w.1
            · exact absurd z_w.1 k_w.2
        obtain ⟨r1_w, r2, r3⟩ := le_rds (G.eqw i4_w) O_w LS' EQ_w bV bB_w K_w hq
        exact ⟨r1_w.trans i3_w, fun y_w h1 h2 => (r2 y_w h1).trans (i4_w y_w h1 h2), r3⟩
theorem ti_run {E_w P_w K_w e_w : Nat} {fr_w to_w od : Nat → Nat} {tok : Nat → Bool} {dl : Nat → Int} {V : Nat → Nat → Int} {m_w m' : dc_M} {k_w v_w : Int32} (G : RGw E_w P_w fr_w to_w tok dl m_w) (O_w : ODw E_w P_w fr_w to_w tok od) (EN_w : ENw E_w P_w K_w fr_w to_w tok dl V) (hk : k_w.toInt = K_w) (K1 : 1 ≤ K_w) (K50 : K_w ≤ 50) (he : e_w < E_w) (h_w : d_X10_time_l34 82 (Int32.ofNat e_w) k_w 1 m_w = some (v_w, m')) : v_w.toInt = if V K_w e_w = -1 then -4 else V K_w e_w := by
  obtain ⟨n1_w, n2_w, n3_w⟩ := EN_w
  have E16 := G.1.2
  have en : (Int32.ofNat e_w).toNatClampNeg = e_w := on_n (by omega)
  unfold d_X10_time_l34 at h_w
  have bd : ∀ x_w, x_w ≤ K_w → ∀ e_w, e_w < E_w → -1 ≤ V x_w e_w ∧ V x_w e_w ≤ 20000 := fun x_w hx e_w he => by
    have := n3_w x_w hx e_w he
    omega
  refine dc_lp_inv (s := ((1 : Int32), m_w)) (fun s : Int32 × dc_M => ∃ x_w : Nat, 1 ≤ x_w ∧ x_w ≤ K_w + 1 ∧ s.1 = Int32.ofNat x_w ∧ (∀ y_w, y_w ≠ 113 → y_w ≠ 114 → s.2.1 y_w = m_w.1 y_w) ∧ (x_w ≠ 1 → ∀ i_w, i_w < E_w → (s.2.1 113 i_w).toInt = V (x_w - 1) i_w)) (fun u_w : Int32 × dc_M => 1 ≤ K_w → u_w.1.toInt = if V K_w e_w = -1 then -4 else V K_w e_w) (fun s s' hI hs => ?_) (fun s u_w hI hs => ?_) ⟨1, Nat.le_refl _, by omega, rfl, fun _ _ _ => rfl, fun q_w => absurd rfl q_w⟩ h_w ?_
  · obtain ⟨x_w, i1_w, i2_w, i3_w, i4_w, i5_w⟩ := hI
    obtain ⟨y_w, zm⟩ := s
    have i3_w : y_w = Int32.ofNat x_w := i3_w
    have i4_w : ∀ y_w, y_w ≠ 113 → y_w ≠ 114 → zm.1 y_w = m_w.1 y_w := i4_w
    have hs : d_X10_time_l34b 82 (Int32.ofNat e_w) k_w y_w zm = some (.inl s') := hs
    rw [i3_w] at hs
    unfold d_X10_time_l34b at hs
    have xt : (Int32.ofNat x_w).toInt = x_w := mk_i (by omega)
    rw [hk, xt] at hs
    by_cases c_w : (K_w : Int) < x_w
    · rw [if_pos c_w] at hs
      generalize d_X10_time_b50 82 (Int32.ofNat e_w) zm = o at hs
      cases o with
      | none => cases hs
      | some o => cases hs
    · rw [if_neg c_w] at hs
      cases hq : d_X10_layEnds 82 (Int32.ofNat x_w) zm with
      | none => rw [hq] at hs; cases hs
      | some q_w =>
        rw [hq] at hs
        have hs := Sum.inl.inj (Option.some.inj hs)
        rw [← hs]
        have hLS : ((Int32.ofNat x_w).toInt = 1 ∧ ∀ e_w, V (x_w - 1) e_w = 0) ∨ ((Int32.ofNat x_w).toInt ≠ 1 ∧ ∀ e_w, e_w < E_w → (zm.1 113 e_w).toInt = V (x_w - 1) e_w) := by
          by_cases z_w : x_w = 1
          · left
            rw [z_w]
            exact ⟨rfl, n1_w⟩
          · right
            exact ⟨by omega, i5_w z_w⟩
        obtain ⟨r1_w, r2, r3⟩ := le_all (G.eqw i4_w) O_w hLS (n2_w x_w i1_w (by omega)) (bd x_w (by omega)) (bd (x_w - 1) (by omega)) hq
        exact ⟨x_w + 1, by omega, by omega, on_1 (by omega), fun y_w h1 h2 => (r2 y_w h1 h2).trans (i4_w y_w h1 h2), fun _ => r3⟩
  · intro K1
    obtain ⟨x_w, i1_w, i2_w, i3_w, i4_w, i5_w⟩ := hI
    obtain ⟨y_w, zm⟩ := s
    have i3_w : y_w = Int32.ofNat x_w := i3_w
    have i5_w : x_w ≠ 1 → ∀ i_w, i_w < E_w → (zm.1 113 i_w).toInt = V (x_w - 1) i_w := i5_w
    have hs : d_X10_time_l34b 82 (Int32.ofNat e_w) k_w y_w zm = some (.inr u_w) := hs
    rw [i3_w] at hs
    unfold d_X10_time_l34b at hs
    have xt : (Int32.ofNat x_w).toInt = x_w := mk_i (by omega)
    rw [hk, xt] at hs
    by_cases c_w : (K_w : Int) < x_w
    · rw [if_pos c_w] at hs
      unfold d_X10_time_b50 at hs
      rw [en, show 82 + 31 = 113 from rfl] at hs
      have ve := i5_w (by omega) e_w he
      rw [show x_w - 1 = K_w by omega] at ve
      by_cases c2_w : (zm.1 113 e_w).toInt = -1
      · rw [if_neg (fun q_w => q_w c2_w)] at hs
        have hs := Sum.inr.inj (Option.some.inj hs)
        rw [← hs, ← ve, if_pos c2_w]
        rfl
      · rw [if_pos c2_w] at hs
        have hs := Sum.inr.inj (Option.some.inj hs)
        rw [← hs, ← ve, if_neg c2_w]
    · rw [if_neg c_w] at hs
      generalize d_X10_layEnds 82 (Int32.ofNat x_w) zm = o at hs
      cases o with
      | none => cases hs
      | some o => cases hs
  · exact K1
