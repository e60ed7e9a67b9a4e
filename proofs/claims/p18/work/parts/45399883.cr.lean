/-! ===== cost: the reference's search says whether it can be made ===== -/
/-- a_w level deeper -/
noncomputable def pshw (z_w : dc_M) (D_w : Nat) (c_w : Int32) (k_w : Nat) : dc_M := dc_wi (dc_wi (dc_wl (dc_wi z_w 108 D_w c_w) 106 (D_w + 1) (z_w.2.1 106 D_w ||| z_w.2.1 104 k_w)) 109 (D_w + 1) (z_w.1 109 D_w - z_w.1 105 k_w)) 107 (D_w + 1) (-4)
def FRc (m0_w z_w : dc_M) : Prop := (∀ b_w, ¬ (107 ≤ b_w ∧ b_w ≤ 109) → z_w.1 b_w = m0_w.1 b_w) ∧ (∀ b_w, b_w ≠ 106 → z_w.2.1 b_w = m0_w.2.1 b_w) ∧ z_w.2.2 = m0_w.2.2
theorem FRc.rf {m_w : dc_M} : FRc m_w m_w := ⟨fun _ _ => rfl, fun _ _ => rfl, rfl⟩
theorem FRc.wi {m_w z_w : dc_M} {b_w k_w : Nat} {v_w : Int32} (h_w : FRc m_w z_w) (hb_w : 107 ≤ b_w ∧ b_w ≤ 109) : FRc m_w (dc_wi z_w b_w k_w v_w) := ⟨fun y_w hy => (funext (fun j_w => wi_k (by omega))).trans (h_w.1 y_w hy), h_w.2.1, h_w.2.2⟩
theorem FRc.wl {m_w z_w : dc_M} {k_w : Nat} {v_w : Int64} (h_w : FRc m_w z_w) : FRc m_w (dc_wl z_w 106 k_w v_w) := ⟨h_w.1, fun y_w hy => (funext (fun j_w => wlw_k (by omega))).trans (h_w.2.1 y_w hy), h_w.2.2⟩
theorem FRc.tr {m_w z_w y_w : dc_M} (h_w : FRc m_w z_w) (g_w : FRc z_w y_w) : FRc m_w y_w := ⟨fun b_w hb_w => (g_w.1 b_w hb_w).trans (h_w.1 b_w hb_w), fun b_w hb_w => (g_w.2.1 b_w hb_w).trans (h_w.2.1 b_w hb_w), g_w.2.2.trans h_w.2.2⟩
/-- of the cubes below t_w none does at this level -/
def FAw (n_w M_w : Nat) (co : Nat → Int64) (cl_w : Nat → Int32) (on_w cv : Int64) (ll : Int) (i_w v_w t_w : Nat) : Prop := ∀ j_w, j_w < t_w → j_w < n_w → mk_bt (co j_w) v_w = true → (cl_w j_w).toInt ≤ ll → ¬ mk_can n_w co (mk_G cl_w n_w) on_w (M_w - i_w - 1) (cv ||| co j_w) (ll - (cl_w j_w).toInt)
/-- a_w level with a_w point -/
def LEw (n_w M_w : Nat) (co : Nat → Int64) (cl_w : Nat → Int32) (on_w : Int64) (z_w : dc_M) (i_w v_w t_w : Nat) : Prop := v_w < 64 ∧ z_w.1 107 i_w = Int32.ofNat v_w ∧ mk_bt on_w v_w = true ∧ mk_bt (z_w.2.1 106 i_w) v_w = false ∧ t_w ≤ n_w ∧ z_w.1 108 i_w = Int32.ofNat t_w ∧ FAw n_w M_w co cl_w on_w (z_w.2.1 106 i_w) (z_w.1 109 i_w).toInt i_w v_w t_w
/-- a_w level below the top_w: cube k_w is being tried -/
def LKw (n_w M_w : Nat) (co : Nat → Int64) (cl_w : Nat → Int32) (on_w : Int64) (z_w : dc_M) (i_w : Nat) : Prop := ∃ v_w k_w, v_w < 64 ∧ z_w.1 107 i_w = Int32.ofNat v_w ∧ mk_bt on_w v_w = true ∧ mk_bt (z_w.2.1 106 i_w) v_w = false ∧ k_w < n_w ∧ z_w.1 108 i_w = Int32.ofNat (k_w + 1) ∧ FAw n_w M_w co cl_w on_w (z_w.2.1 106 i_w) (z_w.1 109 i_w).toInt i_w v_w k_w ∧ mk_bt (co k_w) v_w = true ∧ (cl_w k_w).toInt ≤ (z_w.1 109 i_w).toInt ∧ z_w.2.1 106 (i_w + 1) = z_w.2.1 106 i_w ||| co k_w ∧ (z_w.1 109 (i_w + 1)).toInt = (z_w.1 109 i_w).toInt - (cl_w k_w).toInt ∧ i_w < M_w
def CSw (n_w M_w : Nat) (m0_w : dc_M) (has_w : Int64) (left_w : Int) (D_w : Nat) (z_w : dc_M) : Prop := FRc m0_w z_w ∧ (z_w.2.1 106 0 = has_w ∧ (z_w.1 109 0).toInt = left_w) ∧ (∀ i_w, i_w ≤ D_w → 0 ≤ (z_w.1 109 i_w).toInt ∧ (z_w.1 109 i_w).toInt ≤ 1000) ∧ ∀ i_w, i_w < D_w → LKw n_w M_w (m0_w.2.1 104) (m0_w.1 105) (m0_w.2.1 82 47) z_w i_w
/-- what the search is, ahead of a_w round -/
def CIw (n_w M_w : Nat) (m0_w : dc_M) (has_w : Int64) (left_w : Int) (x_w : Int32) (z_w : dc_M) : Prop := (x_w.toInt = -1 ∧ FRc m0_w z_w ∧ ¬ mk_can n_w (m0_w.2.1 104) (mk_G (m0_w.1 105) n_w) (m0_w.2.1 82 47) M_w has_w left_w) ∨ ∃ D_w, D_w ≤ M_w ∧ x_w = Int32.ofNat D_w ∧ CSw n_w M_w m0_w has_w left_w D_w z_w ∧ (z_w.1 107 D_w = -4 ∨ ∃ v_w t_w, LEw n_w M_w (m0_w.2.1 104) (m0_w.1 105) (m0_w.2.1 82 47) z_w D_w v_w t_w)
theorem LKw.eq {n_w M_w i_w : Nat} {co : Nat → Int64} {cl_w : Nat → Int32} {on_w : Int64} {z_w y_w : dc_M} (h_w : LKw n_w M_w co cl_w on_w z_w i_w) (e_w : ∀ j_w, j_w ≤ i_w → y_w.1 107 j_w = z_w.1 107 j_w ∧ y_w.1 108 j_w = z_w.1 108 j_w) (e2_w : ∀ j_w, j_w ≤ i_w + 1 → y_w.2.1 106 j_w = z_w.2.1 106 j_w ∧ y_w.1 109 j_w = z_w.1 109 j_w) : LKw n_w M_w co cl_w on_w y_w i_w := by
  unfold LKw
  rw [(e_w i_w (Nat.le_refl _)).1, (e_w i_w (Nat.le_refl _)).2, (e2_w i_w (by omega)).1, (e2_w i_w (by omega)).2, (e2_w (i_w + 1) (Nat.le_refl _)).1, (e2_w (i_w + 1) (Nat.le_refl _)).2]
  exact h_w
/-- one level back -/
theorem ciu_w {n_w M_w D_w : Nat} {m0_w z_w : dc_M} {has_w : Int64} {left_w : Int} (S_w : CSw n_w M_w m0_w has_w left_w D_w z_w) (hD : D_w ≤ M_w) (M9_w : M_w ≤ 69) (no_w : ¬ mk_can n_w (m0_w.2.1 104) (mk_G (m0_w.1 105) n_w) (m0_w.2.1 82 47) (M_w - D_w) (z_w.2.1 106 D_w) (z_w.1 109 D_w).toInt) : CIw n_w M_w m0_w has_w left_w (Int32.ofNat D_w + -1) z_w := by
  obtain ⟨s1_w, ⟨s2_w, s3_w⟩, s4_w, s5⟩ := S_w
  have e_w : (Int32.ofNat D_w + -1).toInt = (D_w : Int) - 1 := by
    rw [Int32.toInt_add, mk_i (by omega), show (-1 : Int32).toInt = -1 from rfl, sx_bm (by omega) (by omega)]
    omega
  by_cases z0 : D_w = 0
  · rw [z0, s2_w, s3_w] at no_w
    exact Or.inl ⟨by rw [e_w, z0]; rfl, s1_w, no_w⟩
  · obtain ⟨d_w, hd_w⟩ : ∃ d_w, D_w = d_w + 1 := ⟨D_w - 1, by omega⟩
    subst hd_w
    obtain ⟨v_w, k_w, l1, l2, l3, l4, l5, l6, l7, l8, l9, l10, l11, l12⟩ := s5 d_w (by omega)
    refine Or.inr ⟨d_w, by omega, ?_, ⟨s1_w, ⟨s2_w, s3_w⟩, fun i_w hi_w => s4_w i_w (by omega), fun i_w hi_w => s5 i_w (by omega)⟩, Or.inr ⟨v_w, k_w + 1, l1, l2, l3, l4, by omega, l6, fun j_w hj j2_w j3_w j4_w => ?_⟩⟩
    · refine Int32.toInt_inj.mp ?_
      rw [e_w, mk_i (by omega)]
      omega
    · by_cases y_w : j_w = k_w
      · rw [y_w, ← l10, ← l11, show M_w - d_w - 1 = M_w - (d_w + 1) by omega]
        exact no_w
      · exact l7 j_w (by omega) j2_w j3_w j4_w
/-- behind the scan -/
theorem cib_w {n_w M_w D_w v_w k_w : Nat} {m0_w z_w : dc_M} {has_w : Int64} {left_w : Int} {r_w : (Int32 × dc_M) ⊕ (Int32 × dc_M)} (hn : m0_w.1 82 49 = Int32.ofNat n_w) (n7 : n_w ≤ 729) (hc_w : ∀ k_w, k_w < n_w → 0 ≤ (m0_w.1 105 k_w).toInt ∧ (m0_w.1 105 k_w).toInt ≤ 6) (S_w : CSw n_w M_w m0_w has_w left_w D_w z_w) (hD : D_w ≤ M_w) (M9_w : M_w ≤ 69) (v64 : v_w < 64) (h7 : z_w.1 107 D_w = Int32.ofNat v_w) (von : mk_bt (m0_w.2.1 82 47) v_w = true) (vcv : mk_bt (z_w.2.1 106 D_w) v_w = false) (kn_w : k_w ≤ n_w) (F_w : FAw n_w M_w (m0_w.2.1 104) (m0_w.1 105) (m0_w.2.1 82 47) (z_w.2.1 106 D_w) (z_w.1 109 D_w).toInt D_w v_w k_w) (ok_w : k_w < n_w → mk_bt (m0_w.2.1 104 k_w) v_w = true ∧ (m0_w.1 105 k_w).toInt ≤ (z_w.1 109 D_w).toInt) (h_w : d_X10_canMake_b196 82 (Int32.ofNat M_w) (Int32.ofNat D_w) (Int32.ofNat k_w) z_w = some r_w) : ∃ x_w y_w, r_w = .inl (x_w, y_w) ∧ CIw n_w M_w m0_w has_w left_w x_w y_w := by
  have FR := S_w.1
  have G0_w := fun k_w => (mk_Gok hc_w k_w).1
  unfold d_X10_canMake_b196 at h_w
  rw [FR.1 82 (by decide), hn, mk_i (by omega), mk_i (by omega), mk_i (by omega), mk_i (by omega)] at h_w
  by_cases c1_w : (n_w : Int) ≤ k_w
  · rw [if_pos c1_w] at h_w
    refine ⟨_, _, (Option.some.inj h_w).symm, ciu_w S_w hD M9_w (fun q_w => ?_)⟩
    obtain ⟨m', e_w, k', k1_w, k2_w, k3_w, k4_w⟩ := mk_pick G0_w v64 von vcv q_w
    rw [mk_Glt k1_w] at k3_w k4_w
    refine F_w k' (by omega) k1_w k2_w k3_w ?_
    rw [show M_w - D_w - 1 = m' by omega]
    exact k4_w
  · rw [if_neg c1_w] at h_w
    by_cases c2_w : (M_w : Int) ≤ D_w
    · rw [if_pos c2_w] at h_w
      refine ⟨_, _, (Option.some.inj h_w).symm, ciu_w S_w hD M9_w (fun q_w => ?_)⟩
      obtain ⟨m', e_w, -⟩ := mk_pick G0_w v64 von vcv q_w
      omega
    · rw [if_neg c2_w, on_n (by omega), on_n (by omega), on_1 (by omega), on_1 (by omega), on_n (by omega)] at h_w
      obtain ⟨ok1, ok2⟩ := ok_w (by omega)
      have e1_w : (dc_wi z_w 108 D_w (Int32.ofNat (k_w + 1))).1 109 D_w = z_w.1 109 D_w := wi_k (by omega)
      have e2_w : (dc_wi z_w 108 D_w (Int32.ofNat (k_w + 1))).1 105 k_w = z_w.1 105 k_w := wi_k (by omega)
      have h_w : some (Sum.inl (Int32.ofNat (D_w + 1), dc_wi (dc_wi (dc_wl (dc_wi z_w 108 D_w (Int32.ofNat (k_w + 1))) 106 (D_w + 1) (z_w.2.1 106 D_w ||| z_w.2.1 104 k_w)) 109 (D_w + 1) ((dc_wi z_w 108 D_w (Int32.ofNat (k_w + 1))).1 109 D_w - (dc_wi z_w 108 D_w (Int32.ofNat (k_w + 1))).1 105 k_w)) 107 (D_w + 1) (-4))) = some r_w := h_w
      rw [e1_w, e2_w] at h_w
      obtain ⟨Z_w, hZ⟩ : ∃ Z_w, pshw z_w D_w (Int32.ofNat (k_w + 1)) k_w = Z_w := ⟨_, rfl⟩
      have h_w : some (Sum.inl (Int32.ofNat (D_w + 1), Z_w)) = some r_w := by rw [← hZ]; exact h_w
      have zf : FRc m0_w Z_w := by rw [← hZ]; exact (((FR.wi (by decide)).wl).wi (by decide)).wi (by decide)
      have z7 : ∀ i_w, i_w ≤ D_w → Z_w.1 107 i_w = z_w.1 107 i_w := fun i_w hi_w => by
        rw [← hZ]
        unfold pshw
        rw [wi_k (by omega), wi_k (by omega)]
        show (dc_wi z_w 108 D_w (Int32.ofNat (k_w + 1))).1 107 i_w = _
        rw [wi_k (by omega)]
      have z7' : Z_w.1 107 (D_w + 1) = -4 := by rw [← hZ]; exact wi_s
      have z8 : ∀ i_w, i_w < D_w → Z_w.1 108 i_w = z_w.1 108 i_w := fun i_w hi_w => by
        rw [← hZ]
        unfold pshw
        rw [wi_k (by omega), wi_k (by omega)]
        show (dc_wi z_w 108 D_w (Int32.ofNat (k_w + 1))).1 108 i_w = _
        rw [wi_k (by omega)]
      have z8' : Z_w.1 108 D_w = Int32.ofNat (k_w + 1) := by
        rw [← hZ]
        unfold pshw
        rw [wi_k (by omega), wi_k (by omega)]
        show (dc_wi z_w 108 D_w (Int32.ofNat (k_w + 1))).1 108 D_w = _
        rw [wi_s]
      have z9 : ∀ i_w, i_w ≤ D_w → Z_w.1 109 i_w = z_w.1 109 i_w := fun i_w hi_w => by
        rw [← hZ]
        unfold pshw
        rw [wi_k (by omega), wi_k (by omega)]
        show (dc_wi z_w 108 D_w (Int32.ofNat (k_w + 1))).1 109 i_w = _
        rw [wi_k (by omega)]
      have z9' : Z_w.1 109 (D_w + 1) = z_w.1 109 D_w - z_w.1 105 k_w := by
        rw [← hZ]
        unfold pshw
        rw [wi_k (by omega), wi_s]
      have z6 : ∀ i_w, i_w ≤ D_w → Z_w.2.1 106 i_w = z_w.2.1 106 i_w := fun i_w hi_w => by
        rw [← hZ]
        exact wlw_k (by omega)
      have z6' : Z_w.2.1 106 (D_w + 1) = z_w.2.1 106 D_w ||| z_w.2.1 104 k_w := by
        rw [← hZ]
        exact wlw_s
      have cc : z_w.1 105 k_w = m0_w.1 105 k_w := by rw [FR.1 105 (by decide)]
      have co : z_w.2.1 104 k_w = m0_w.2.1 104 k_w := by rw [FR.2.1 104 (by decide)]
      have bl := S_w.2.2.1 D_w (Nat.le_refl _)
      have ck := hc_w k_w (by omega)
      have l9 : (Z_w.1 109 (D_w + 1)).toInt = (z_w.1 109 D_w).toInt - (m0_w.1 105 k_w).toInt := by
        rw [z9', cc, Int32.toInt_sub, sx_bm (by omega) (by omega)]
      refine ⟨_, _, (Option.some.inj h_w).symm, Or.inr ⟨D_w + 1, by omega, rfl, ⟨zf, ⟨(z6 0 (by omega)).trans S_w.2.1.1, by rw [z9 0 (by omega)]; exact S_w.2.1.2⟩, fun i_w hi_w => ?_, fun i_w hi_w => ?_⟩, Or.inl z7'⟩⟩
      · by_cases y_w : i_w = D_w + 1
        · rw [y_w, l9]; omega
        · rw [z9 i_w (by omega)]; exact S_w.2.2.1 i_w (by omega)
      · by_cases y_w : i_w = D_w
        · rw [y_w]
          refine ⟨v_w, k_w, v64, by rw [z7 D_w (by omega)]; exact h7, von, by rw [z6 D_w (by omega)]; exact vcv, by omega, z8', ?_, ok1, ?_, ?_, ?_, by omega⟩
          · rw [z6 D_w (by omega), z9 D_w (by omega)]; exact F_w
          · rw [z9 D_w (by omega)]; exact ok2
          · rw [z6', z6 D_w (by omega), co]
          · rw [l9, z9 D_w (by omega)]
        · exact (S_w.2.2.2 i_w (by omega)).eq (fun j_w hj => ⟨z7 j_w (by omega), z8 j_w (by omega)⟩) (fun j_w hj => ⟨z6 j_w (by omega), z9 j_w (by omega)⟩)
/-- the scan for the next cube -/
theorem cis_w {n_w M_w D_w v_w t_w : Nat} {m0_w z_w : dc_M} {has_w : Int64} {left_w : Int} {r_w : (Int32 × dc_M) ⊕ (Int32 × dc_M)} (hn : m0_w.1 82 49 = Int32.ofNat n_w) (n7 : n_w ≤ 729) (hc_w : ∀ k_w, k_w < n_w → 0 ≤ (m0_w.1 105 k_w).toInt ∧ (m0_w.1 105 k_w).toInt ≤ 6) (S_w : CSw n_w M_w m0_w has_w left_w D_w z_w) (hD : D_w ≤ M_w) (M9_w : M_w ≤ 69) (L_w : LEw n_w M_w (m0_w.2.1 104) (m0_w.1 105) (m0_w.2.1 82 47) z_w D_w v_w t_w) (h_w : d_X10_canMake_l142 82 (Int32.ofNat M_w) (Int32.ofNat D_w) (Int32.ofNat t_w) z_w = some r_w) : ∃ x_w y_w, r_w = .inl (x_w, y_w) ∧ CIw n_w M_w m0_w has_w left_w x_w y_w := by
  obtain ⟨v64, h7, von, vcv, tn_w, -, F0_w⟩ := L_w
  have FR := S_w.1
  unfold d_X10_canMake_l142 at h_w
  have yes_w : ∀ (k_w : Nat) (o : Option ((Int32 × dc_M) ⊕ (Int32 × dc_M))) (w_w : (Int32 × dc_M) ⊕ (Int32 × dc_M)), (o.map (fun z_w => (Sum.inr z_w : Int32 ⊕ ((Int32 × dc_M) ⊕ (Int32 × dc_M))))) = some (.inr w_w) → o = some w_w := fun k_w o w_w h_w => by
    cases o with
    | none => cases h_w
    | some o =>
      have h_w : (some (Sum.inr o) : Option (Int32 ⊕ ((Int32 × dc_M) ⊕ (Int32 × dc_M)))) = some (.inr w_w) := h_w
      rw [Sum.inr.inj (Option.some.inj h_w)]
  have no_w : ∀ (o : Option ((Int32 × dc_M) ⊕ (Int32 × dc_M))) (w_w : Int32), (o.map (fun z_w => (Sum.inr z_w : Int32 ⊕ ((Int32 × dc_M) ⊕ (Int32 × dc_M))))) = some (.inl w_w) → False := fun o w_w h_w => by cases o <;> cases h_w
  refine dc_lp_inv (s := Int32.ofNat t_w) (fun s : Int32 => ∃ k_w : Nat, k_w ≤ n_w ∧ s = Int32.ofNat k_w ∧ FAw n_w M_w (m0_w.2.1 104) (m0_w.1 105) (m0_w.2.1 82 47) (z_w.2.1 106 D_w) (z_w.1 109 D_w).toInt D_w v_w k_w) (fun r_w => ∃ x_w y_w, r_w = .inl (x_w, y_w) ∧ CIw n_w M_w m0_w has_w left_w x_w y_w) (fun s s' hI hs => ?_) (fun s u_w hI hs => ?_) ⟨t_w, tn_w, rfl, F0_w⟩ h_w
  · obtain ⟨k_w, i1_w, i2_w, i3_w⟩ := hI
    have hs : d_X10_canMake_l142b 82 (Int32.ofNat M_w) (Int32.ofNat D_w) s z_w = some (.inl s') := hs
    unfold d_X10_canMake_l142b at hs
    rw [i2_w, FR.1 82 (by decide), hn, mk_i (by omega), mk_i (by omega), on_n (show D_w < 1000 by omega), on_n (show k_w < 1000 by omega), show 82 + 25 = 107 from rfl, show 82 + 22 = 104 from rfl, show 82 + 23 = 105 from rfl, show 82 + 27 = 109 from rfl, h7, mk_bit _ v64, FR.2.1 104 (by decide), FR.1 105 (by decide)] at hs
    by_cases c1_w : (n_w : Int) ≤ k_w
    · rw [if_pos c1_w] at hs; exact (no_w _ _ hs).elim
    · rw [if_neg c1_w] at hs
      by_cases b_w : mk_bt (m0_w.2.1 104 k_w) v_w = true
      · rw [if_neg (fun q_w => by rw [cb0_w, b_w] at q_w; cases q_w)] at hs
        by_cases c2_w : (m0_w.1 105 k_w).toInt ≤ (z_w.1 109 D_w).toInt
        · rw [if_pos c2_w] at hs; exact (no_w _ _ hs).elim
        · rw [if_neg c2_w, on_1 (by omega)] at hs
          have hs := Sum.inl.inj (Option.some.inj hs)
          rw [← hs]
          refine ⟨k_w + 1, by omega, rfl, fun j_w hj j2_w j3_w j4_w => ?_⟩
          by_cases y_w : j_w = k_w
          · rw [y_w] at j4_w; exact absurd j4_w c2_w
          · exact i3_w j_w (by omega) j2_w j3_w j4_w
      · rw [if_pos (cb0_w.mpr (eq_false_of_ne_true b_w)), on_1 (by omega)] at hs
        have hs := Sum.inl.inj (Option.some.inj hs)
        rw [← hs]
        refine ⟨k_w + 1, by omega, rfl, fun j_w hj j2_w j3_w j4_w => ?_⟩
        by_cases y_w : j_w = k_w
        · rw [y_w] at j3_w; exact absurd j3_w b_w
        · exact i3_w j_w (by omega) j2_w j3_w j4_w
  · obtain ⟨k_w, i1_w, i2_w, i3_w⟩ := hI
    have hs : d_X10_canMake_l142b 82 (Int32.ofNat M_w) (Int32.ofNat D_w) s z_w = some (.inr u_w) := hs
    unfold d_X10_canMake_l142b at hs
    rw [i2_w, FR.1 82 (by decide), hn, mk_i (by omega), mk_i (by omega), on_n (show D_w < 1000 by omega), on_n (show k_w < 1000 by omega), show 82 + 25 = 107 from rfl, show 82 + 22 = 104 from rfl, show 82 + 23 = 105 from rfl, show 82 + 27 = 109 from rfl, h7, mk_bit _ v64, FR.2.1 104 (by decide), FR.1 105 (by decide)] at hs
    by_cases c1_w : (n_w : Int) ≤ k_w
    · rw [if_pos c1_w] at hs
      exact cib_w hn n7 hc_w S_w hD M9_w v64 h7 von vcv i1_w i3_w (fun q_w => by omega) (yes_w 0 _ _ hs)
    · rw [if_neg c1_w] at hs
      by_cases b_w : mk_bt (m0_w.2.1 104 k_w) v_w = true
      · rw [if_neg (fun q_w => by rw [cb0_w, b_w] at q_w; cases q_w)] at hs
        by_cases c2_w : (m0_w.1 105 k_w).toInt ≤ (z_w.1 109 D_w).toInt
        · rw [if_pos c2_w] at hs
          exact cib_w hn n7 hc_w S_w hD M9_w v64 h7 von vcv i1_w i3_w (fun q_w => ⟨b_w, c2_w⟩) (yes_w 0 _ _ hs)
        · rw [if_neg c2_w] at hs; cases hs
      · rw [if_pos (cb0_w.mpr (eq_false_of_ne_true b_w))] at hs; cases hs
/-- the whole search -/
theorem cm_w {n_w M_w : Nat} {m0_w m' : dc_M} {has_w : Int64} {left_w q_w : Int32} (hn : m0_w.1 82 49 = Int32.ofNat n_w) (n7 : n_w ≤ 729) (hc_w : ∀ k_w, k_w < n_w → 0 ≤ (m0_w.1 105 k_w).toInt ∧ (m0_w.1 105 k_w).toInt ≤ 6) (M9_w : M_w ≤ 69) (hl : 0 ≤ left_w.toInt ∧ left_w.toInt ≤ 1000) (h_w : d_X10_canMake 82 has_w (Int32.ofNat M_w) left_w m0_w = some (q_w, m')) : FRc m0_w m' ∧ ((q_w = 1 ∧ mk_can n_w (m0_w.2.1 104) (mk_G (m0_w.1 105) n_w) (m0_w.2.1 82 47) M_w has_w left_w.toInt) ∨ (q_w = 0 ∧ ¬ mk_can n_w (m0_w.2.1 104) (mk_G (m0_w.1 105) n_w) (m0_w.2.1 82 47) M_w has_w left_w.toInt)) := by
  unfold d_X10_canMake d_X10_canMake_l26 at h_w
  obtain ⟨Z_w, hZ⟩ : ∃ Z_w, dc_wi (dc_wi (dc_wl m0_w 106 0 has_w) 109 0 left_w) 107 0 (-4) = Z_w := ⟨_, rfl⟩
  have h_w : dc_lp (d_X10_canMake_l26s 82 (Int32.ofNat M_w)) ((0 : Int32), dc_wi (dc_wi (dc_wl m0_w 106 0 has_w) 109 0 left_w) 107 0 (-4)) = some (q_w, m') := h_w
  rw [hZ] at h_w
  have z9 : Z_w.1 109 0 = left_w := by rw [← hZ, wi_k (by omega), wi_s]
  have z6 : Z_w.2.1 106 0 = has_w := by rw [← hZ]; exact wlw_s
  have ini_w : CIw n_w M_w m0_w has_w left_w.toInt 0 Z_w := by
    refine Or.inr ⟨0, Nat.zero_le _, rfl, ⟨?_, ⟨z6, by rw [z9]⟩, fun i_w hi_w => ?_, fun i_w hi_w => absurd hi_w (Nat.not_lt_zero i_w)⟩, Or.inl ?_⟩
    · rw [← hZ]
      exact ((FRc.rf.wl).wi (by decide)).wi (by decide)
    · rw [show i_w = 0 by omega, z9]
      exact hl
    · rw [← hZ]
      exact wi_s
  -- one round
  have step_w : ∀ (x_w : Int32) (z_w : dc_M) (r_w : (Int32 × dc_M) ⊕ (Int32 × dc_M)), CIw n_w M_w m0_w has_w left_w.toInt x_w z_w → d_X10_canMake_l26b 82 (Int32.ofNat M_w) x_w z_w = some r_w → (∃ x' y_w, r_w = .inl (x', y_w) ∧ CIw n_w M_w m0_w has_w left_w.toInt x' y_w) ∨ ∃ q', r_w = .inr (q', z_w) ∧ FRc m0_w z_w ∧ ((q' = 1 ∧ mk_can n_w (m0_w.2.1 104) (mk_G (m0_w.1 105) n_w) (m0_w.2.1 82 47) M_w has_w left_w.toInt) ∨ (q' = 0 ∧ ¬ mk_can n_w (m0_w.2.1 104) (mk_G (m0_w.1 105) n_w) (m0_w.2.1 82 47) M_w has_w left_w.toInt)) := fun x_w z_w r_w I_w hz => by
    unfold d_X10_canMake_l26b at hz
    rcases I_w with ⟨i1_w, i2_w, i3_w⟩ | ⟨D_w, hD, i2_w, S_w, T⟩
    · rw [if_pos (by omega)] at hz
      exact Or.inr ⟨0, (Option.some.inj hz).symm, i2_w, Or.inr ⟨rfl, i3_w⟩⟩
    · have FR := S_w.1
      rw [i2_w, if_neg (by rw [mk_i (by omega)]; omega), on_n (by omega), show 82 + 24 = 106 from rfl, show 82 + 25 = 107 from rfl, show 82 + 26 = 108 from rfl, show 82 + 27 = 109 from rfl, FR.2.1 82 (by decide)] at hz
      by_cases c1_w : m0_w.2.1 82 47 &&& (z_w.2.1 106 D_w ^^^ -1) = 0
      · rw [if_neg (fun q_w => q_w (cz_w.mpr c1_w))] at hz
        refine Or.inr ⟨1, (Option.some.inj hz).symm, FR, Or.inl ⟨rfl, ?_⟩⟩
        have top_w : mk_can n_w (m0_w.2.1 104) (mk_G (m0_w.1 105) n_w) (m0_w.2.1 82 47) (M_w - D_w) (z_w.2.1 106 D_w) (z_w.1 109 D_w).toInt := mk_can_of_all (mk_lacks.mp c1_w)
        have down_w : ∀ d_w, d_w ≤ D_w → mk_can n_w (m0_w.2.1 104) (mk_G (m0_w.1 105) n_w) (m0_w.2.1 82 47) (M_w - (D_w - d_w)) (z_w.2.1 106 (D_w - d_w)) (z_w.1 109 (D_w - d_w)).toInt := fun d_w => by
          induction d_w with
          | zero => intro _; exact top_w
          | succ d_w ih =>
            intro hd_w
            have t_w := ih (by omega)
            obtain ⟨v_w, k_w, l1, l2, l3, l4, l5, l6, l7, l8, l9, l10, l11, l12⟩ := S_w.2.2.2 (D_w - (d_w + 1)) (by omega)
            rw [show D_w - d_w = D_w - (d_w + 1) + 1 by omega] at t_w
            rw [l10, l11] at t_w
            rw [show M_w - (D_w - (d_w + 1)) = (M_w - (D_w - (d_w + 1) + 1)) + 1 by omega]
            exact Or.inr ⟨k_w, l5, by rw [mk_Glt l5]; exact l9, by rw [mk_Glt l5]; exact t_w⟩
        have := down_w D_w (Nat.le_refl _)
        rw [Nat.sub_self, S_w.2.1.1, S_w.2.1.2] at this
        exact this
      · rw [if_pos (fun q_w => c1_w (cz_w.mp q_w))] at hz
        refine Or.inl ?_
        rcases T with T | ⟨v_w, t_w, L_w⟩
        · rw [T, if_neg (fun q_w => q_w rfl)] at hz
          cases hq : d_X10_isHopeless 82 (m0_w.2.1 82 47 &&& (z_w.2.1 106 D_w ^^^ -1)) (Int32.ofNat M_w - Int32.ofNat D_w) (z_w.1 109 D_w) z_w with
          | none => rw [hq] at hz; cases hz
          | some b_w =>
            rw [hq, Option.bind_some] at hz
            have hzn : z_w.1 82 49 = Int32.ofNat n_w := by rw [FR.1 82 (by decide)]; exact hn
            have hzc : ∀ k_w, k_w < n_w → 0 ≤ (z_w.1 105 k_w).toInt ∧ (z_w.1 105 k_w).toInt ≤ 6 := fun k_w hk => by rw [FR.1 105 (by decide)]; exact hc_w k_w hk
            have HP := hps_w hzn n7 hzc hq
            rw [FR.1 105 (by decide), FR.2.1 104 (by decide), FR.2.1 82 (by decide)] at HP
            by_cases c2_w : b_w.toInt = 0
            · rw [if_pos c2_w] at hz
              cases hd_w : d_X10_hardest 82 (m0_w.2.1 82 47 &&& (z_w.2.1 106 D_w ^^^ -1)) z_w with
              | none => rw [hd_w] at hz; cases hz
              | some w_w =>
                rw [hd_w, Option.bind_some] at hz
                rcases hds_w hzn n7 hd_w with ⟨-, w2_w⟩ | ⟨v_w, v1_w, v2, v3⟩
                · exact absurd w2_w c1_w
                · rw [mk_and, mk_not _ v1_w, Bool.and_eq_true] at v3
                  obtain ⟨Y, hY⟩ : ∃ Y, dc_wi (dc_wi z_w 107 D_w w_w) 108 D_w 0 = Y := ⟨_, rfl⟩
                  rw [hY] at hz
                  have y7 : ∀ i_w, Y.1 107 i_w = if i_w = D_w then w_w else z_w.1 107 i_w := fun i_w => by
                    rw [← hY, wi_k (by omega)]
                    by_cases e_w : i_w = D_w
                    · rw [if_pos e_w, e_w, wi_s]
                    · rw [if_neg e_w, wi_k (by omega)]
                  have y8 : ∀ i_w, Y.1 108 i_w = if i_w = D_w then 0 else z_w.1 108 i_w := fun i_w => by
                    rw [← hY]
                    by_cases e_w : i_w = D_w
                    · rw [if_pos e_w, e_w, wi_s]
                    · rw [if_neg e_w, wi_k (by omega), wi_k (by omega)]
                  have y9 : ∀ i_w, Y.1 109 i_w = z_w.1 109 i_w := fun i_w => by rw [← hY, wi_k (by omega), wi_k (by omega)]
                  have y6 : ∀ i_w, Y.2.1 106 i_w = z_w.2.1 106 i_w := fun i_w => by rw [← hY]; rfl
                  have SY : CSw n_w M_w m0_w has_w left_w.toInt D_w Y := ⟨by rw [← hY]; exact (FR.wi (by decide)).wi (by decide), ⟨(y6 0).trans S_w.2.1.1, by rw [y9]; exact S_w.2.1.2⟩, fun i_w hi_w => by rw [y9]; exact S_w.2.2.1 i_w hi_w, fun i_w hi_w => (S_w.2.2.2 i_w hi_w).eq (fun j_w hj => ⟨by rw [y7, if_neg (by omega)], by rw [y8, if_neg (by omega)]⟩) (fun j_w hj => ⟨y6 j_w, y9 j_w⟩)⟩
                  have LY : LEw n_w M_w (m0_w.2.1 104) (m0_w.1 105) (m0_w.2.1 82 47) Y D_w v_w 0 := ⟨v1_w, by rw [y7, if_pos rfl]; exact v2, v3.1, by rw [y6]; have := v3.2; revert this; cases mk_bt (z_w.2.1 106 D_w) v_w <;> decide, Nat.zero_le _, by rw [y8, if_pos rfl]; rfl, fun j_w hj => absurd hj (Nat.not_lt_zero j_w)⟩
                  unfold d_X10_canMake_b115 at hz
                  rw [on_n (by omega), show 82 + 25 = 107 from rfl, show 82 + 26 = 108 from rfl, LY.2.1, if_pos (by rw [mk_i (by omega)]; omega), LY.2.2.2.2.2.1] at hz
                  exact cis_w hn n7 hc_w SY hD M9_w LY hz
            · rw [if_neg c2_w] at hz
              obtain ⟨Y, hY⟩ : ∃ Y, dc_wi (dc_wi z_w 107 D_w (-1)) 108 D_w 0 = Y := ⟨_, rfl⟩
              rw [hY] at hz
              have FY : FRc m0_w Y := by rw [← hY]; exact (FR.wi (by decide)).wi (by decide)
              have y7 : ∀ i_w, Y.1 107 i_w = if i_w = D_w then -1 else z_w.1 107 i_w := fun i_w => by
                rw [← hY, wi_k (by omega)]
                by_cases e_w : i_w = D_w
                · rw [if_pos e_w, e_w, wi_s]
                · rw [if_neg e_w, wi_k (by omega)]
              have y8 : ∀ i_w, Y.1 108 i_w = if i_w = D_w then 0 else z_w.1 108 i_w := fun i_w => by
                rw [← hY]
                by_cases e_w : i_w = D_w
                · rw [if_pos e_w, e_w, wi_s]
                · rw [if_neg e_w, wi_k (by omega), wi_k (by omega)]
              have y9 : ∀ i_w, Y.1 109 i_w = z_w.1 109 i_w := fun i_w => by rw [← hY, wi_k (by omega), wi_k (by omega)]
              have y6 : ∀ i_w, Y.2.1 106 i_w = z_w.2.1 106 i_w := fun i_w => by rw [← hY]; rfl
              have SY : CSw n_w M_w m0_w has_w left_w.toInt D_w Y := ⟨FY, ⟨(y6 0).trans S_w.2.1.1, by rw [y9]; exact S_w.2.1.2⟩, fun i_w hi_w => by rw [y9]; exact S_w.2.2.1 i_w hi_w, fun i_w hi_w => (S_w.2.2.2 i_w hi_w).eq (fun j_w hj => ⟨by rw [y7, if_neg (by omega)], by rw [y8, if_neg (by omega)]⟩) (fun j_w hj => ⟨y6 j_w, y9 j_w⟩)⟩
              have bad_w : ¬ mk_can n_w (m0_w.2.1 104) (mk_G (m0_w.1 105) n_w) (m0_w.2.1 82 47) (M_w - D_w) (z_w.2.1 106 D_w) (z_w.1 109 D_w).toInt := fun q_w => by
                rcases HP with w_w | ⟨-, a_w, g_w, lb, w_w⟩
                · rw [w_w] at c2_w; exact c2_w rfl
                · have sb_w : (Int32.ofNat M_w - Int32.ofNat D_w).toInt = (M_w : Int) - D_w := by rw [Int32.toInt_sub, mk_i (by omega), mk_i (by omega), sx_bm (by omega) (by omega)]
                  have bl := S_w.2.2.1 D_w (Nat.le_refl _)
                  have := lb (M_w - D_w) (z_w.2.1 106 D_w) (z_w.1 109 D_w).toInt bl.1 (fun i_w hi_w hb_w => by
                    rw [mk_and, mk_not _ hi_w, Bool.and_eq_true] at hb_w
                    refine ⟨hb_w.1, ?_⟩
                    have := hb_w.2
                    revert this
                    cases mk_bt (z_w.2.1 106 D_w) i_w <;> decide) q_w
                  omega
              unfold d_X10_canMake_b115 at hz
              rw [on_n (by omega), show 82 + 25 = 107 from rfl, y7, if_pos rfl, if_neg (fun q_w => q_w rfl), FY.1 82 (by decide), hn] at hz
              -- nothing is tried
              unfold d_X10_canMake_l142 at hz
              refine dc_lp_inv (s := Int32.ofNat n_w) (fun s : Int32 => s = Int32.ofNat n_w) (fun r_w => ∃ x' y_w, r_w = .inl (x', y_w) ∧ CIw n_w M_w m0_w has_w left_w.toInt x' y_w) (fun s s' hI hs => ?_) (fun s u_w hI hs => ?_) rfl hz
              · have hs : d_X10_canMake_l142b 82 (Int32.ofNat M_w) (Int32.ofNat D_w) s Y = some (.inl s') := hs
                unfold d_X10_canMake_l142b at hs
                rw [hI, FY.1 82 (by decide), hn, if_pos (Int.le_refl _)] at hs
                generalize d_X10_canMake_b196 82 (Int32.ofNat M_w) (Int32.ofNat D_w) (Int32.ofNat n_w) Y = o at hs
                cases o <;> cases hs
              · have hs : d_X10_canMake_l142b 82 (Int32.ofNat M_w) (Int32.ofNat D_w) s Y = some (.inr u_w) := hs
                unfold d_X10_canMake_l142b d_X10_canMake_b196 at hs
                rw [hI, FY.1 82 (by decide), hn, if_pos (Int.le_refl _), if_pos (Int.le_refl _)] at hs
                have hs := Sum.inr.inj (Option.some.inj hs)
                exact ⟨_, _, hs.symm, ciu_w SY hD M9_w (by rw [y6, y9]; exact bad_w)⟩
        · rw [L_w.2.1, if_pos (by rw [mk_i (by have := L_w.1; omega)]; omega)] at hz
          unfold d_X10_canMake_b115 at hz
          rw [on_n (by omega), show 82 + 25 = 107 from rfl, show 82 + 26 = 108 from rfl, L_w.2.1, if_pos (by rw [mk_i (by have := L_w.1; omega)]; omega), L_w.2.2.2.2.2.1] at hz
          exact cis_w hn n7 hc_w S_w hD M9_w L_w hz
  refine dc_lp_inv (s := ((0 : Int32), Z_w)) (fun s : Int32 × dc_M => CIw n_w M_w m0_w has_w left_w.toInt s.1 s.2) (fun u_w : Int32 × dc_M => (q_w, m') = u_w → FRc m0_w m' ∧ ((q_w = 1 ∧ mk_can n_w (m0_w.2.1 104) (mk_G (m0_w.1 105) n_w) (m0_w.2.1 82 47) M_w has_w left_w.toInt) ∨ (q_w = 0 ∧ ¬ mk_can n_w (m0_w.2.1 104) (mk_G (m0_w.1 105) n_w) (m0_w.2.1 82 47) M_w has_w left_w.toInt))) (fun s s' hI hs => ?_) (fun s u_w hI hs => ?_) ini_w h_w rfl
  · rcases step_w s.1 s.2 _ hI hs with ⟨x', y_w, r1_w, r2⟩ | ⟨q', r1_w, -⟩
    · have r1_w := Sum.inl.inj r1_w
      rw [r1_w]
      exact r2
    · cases r1_w
  · intro hu
    rcases step_w s.1 s.2 _ hI hs with ⟨x', y_w, r1_w, r2⟩ | ⟨q', r1_w, r2⟩
    · cases r1_w
    · have r1_w := Prod.mk.inj (hu.trans (Sum.inr.inj r1_w))
      rw [r1_w.1, r1_w.2]
      exact r2
