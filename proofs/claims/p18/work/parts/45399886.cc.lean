/-! ===== cost: the class weighs the levels ===== -/
theorem om1_w {i_w : Nat} (h_w : i_w + 1 < 1000) : Int32.ofNat (i_w + 1) + -1 = Int32.ofNat i_w ∧ Int32.ofNat (i_w + 1) - 1 = Int32.ofNat i_w := by
  refine ⟨Int32.toInt_inj.mp ?_, Int32.toInt_inj.mp ?_⟩
  · rw [Int32.toInt_add, mk_i (by omega), mk_i (by omega), show (-1 : Int32).toInt = -1 from rfl, sx_bm (by omega) (by omega)]
    omega
  · rw [Int32.toInt_sub, mk_i (by omega), mk_i (by omega), show (1 : Int32).toInt = 1 from rfl, sx_bm (by omega) (by omega)]
    omega
theorem pio_w {z_w e_w : dc_M} {k_w l : Nat} (h9 : z_w.1 21 9 = Int32.ofNat k_w) (hk : k_w ≤ 64) (h_w : d_X1_putInOrder 21 (Int32.ofNat l) z_w = some e_w) : (∀ b_w, b_w ≠ 21 → b_w ≠ 29 → e_w.1 b_w = z_w.1 b_w) ∧ (∀ j_w, j_w ≠ 9 → e_w.1 21 j_w = z_w.1 21 j_w) ∧ e_w.2 = z_w.2 ∧ e_w.1 21 9 = Int32.ofNat (k_w + 1) ∧ ∃ i_w, i_w ≤ k_w ∧ (∀ j_w, j_w < i_w → e_w.1 29 j_w = z_w.1 29 j_w) ∧ e_w.1 29 i_w = Int32.ofNat l ∧ ∀ j_w, i_w ≤ j_w → j_w < k_w → e_w.1 29 (j_w + 1) = z_w.1 29 j_w := by
  unfold d_X1_putInOrder d_X1_putInOrder_l5 at h_w
  rw [h9] at h_w
  have fin_w : ∀ (i_w : Nat) (m_w u_w : dc_M), i_w ≤ k_w → (∀ b_w, b_w ≠ 29 → m_w.1 b_w = z_w.1 b_w) → m_w.2 = z_w.2 → (∀ j_w, j_w < i_w → m_w.1 29 j_w = z_w.1 29 j_w) → (∀ j_w, i_w ≤ j_w → j_w < k_w → m_w.1 29 (j_w + 1) = z_w.1 29 j_w) → u_w = dc_wi (dc_wi m_w 29 i_w (Int32.ofNat l)) 21 9 ((dc_wi m_w 29 i_w (Int32.ofNat l)).1 21 9 + 1) → (∀ b_w, b_w ≠ 21 → b_w ≠ 29 → u_w.1 b_w = z_w.1 b_w) ∧ (∀ j_w, j_w ≠ 9 → u_w.1 21 j_w = z_w.1 21 j_w) ∧ u_w.2 = z_w.2 ∧ u_w.1 21 9 = Int32.ofNat (k_w + 1) ∧ ∃ i_w, i_w ≤ k_w ∧ (∀ j_w, j_w < i_w → u_w.1 29 j_w = z_w.1 29 j_w) ∧ u_w.1 29 i_w = Int32.ofNat l ∧ ∀ j_w, i_w ≤ j_w → j_w < k_w → u_w.1 29 (j_w + 1) = z_w.1 29 j_w := fun i_w m_w u_w hi_w f1_w f2_w f3_w f4_w hu => by
    rw [hu]
    refine ⟨fun b_w b1 b2 => funext (fun j_w => ?_), fun j_w hj => ?_, f2_w, ?_, i_w, hi_w, fun j_w hj => ?_, ?_, fun j_w j1 j2_w => ?_⟩
    · rw [wi_k (by omega), wi_k (by omega), f1_w b_w b2]
    · rw [wi_k (by omega), wi_k (by omega), f1_w 21 (by decide)]
    · rw [wi_s, wi_k (by omega), f1_w 21 (by decide), h9]
      exact on_1 (by omega)
    · rw [wi_k (by omega), wi_k (by omega)]; exact f3_w j_w hj
    · rw [wi_k (by omega), wi_s]
    · rw [wi_k (by omega), wi_k (by omega)]; exact f4_w j_w j1 j2_w
  refine dc_lp_inv (s := (Int32.ofNat k_w, z_w)) (fun s : Int32 × dc_M => ∃ i_w, i_w ≤ k_w ∧ s.1 = Int32.ofNat i_w ∧ (∀ b_w, b_w ≠ 29 → s.2.1 b_w = z_w.1 b_w) ∧ s.2.2 = z_w.2 ∧ (∀ j_w, j_w < i_w → s.2.1 29 j_w = z_w.1 29 j_w) ∧ ∀ j_w, i_w ≤ j_w → j_w < k_w → s.2.1 29 (j_w + 1) = z_w.1 29 j_w) (fun e_w => (∀ b_w, b_w ≠ 21 → b_w ≠ 29 → e_w.1 b_w = z_w.1 b_w) ∧ (∀ j_w, j_w ≠ 9 → e_w.1 21 j_w = z_w.1 21 j_w) ∧ e_w.2 = z_w.2 ∧ e_w.1 21 9 = Int32.ofNat (k_w + 1) ∧ ∃ i_w, i_w ≤ k_w ∧ (∀ j_w, j_w < i_w → e_w.1 29 j_w = z_w.1 29 j_w) ∧ e_w.1 29 i_w = Int32.ofNat l ∧ ∀ j_w, i_w ≤ j_w → j_w < k_w → e_w.1 29 (j_w + 1) = z_w.1 29 j_w) (fun s s' hI hs => ?_) (fun s u_w hI hs => ?_) ⟨k_w, Nat.le_refl _, rfl, fun _ _ => rfl, rfl, fun _ _ => rfl, fun j_w j1 j2_w => by omega⟩ h_w
  · obtain ⟨i_w, i1_w, i2_w, i3_w, i4_w, i5_w, i6_w⟩ := hI
    obtain ⟨x_w, m_w⟩ := s
    have i2_w : x_w = Int32.ofNat i_w := i2_w
    have i3_w : ∀ b_w, b_w ≠ 29 → m_w.1 b_w = z_w.1 b_w := i3_w
    have i4_w : m_w.2 = z_w.2 := i4_w
    have i5_w : ∀ j_w, j_w < i_w → m_w.1 29 j_w = z_w.1 29 j_w := i5_w
    have i6_w : ∀ j_w, i_w ≤ j_w → j_w < k_w → m_w.1 29 (j_w + 1) = z_w.1 29 j_w := i6_w
    have hs : d_X1_putInOrder_l5b 21 (Int32.ofNat l) x_w m_w = some (.inl s') := hs
    unfold d_X1_putInOrder_l5b at hs
    rw [i2_w, mk_i (by omega), on_n (show i_w < 1000 by omega)] at hs
    by_cases c1_w : (i_w : Int) ≤ 0
    · rw [if_pos c1_w] at hs; cases hs
    · rw [if_neg c1_w] at hs
      obtain ⟨a_w, ha_w⟩ : ∃ a_w, i_w = a_w + 1 := ⟨i_w - 1, by omega⟩
      rw [ha_w] at i1_w i5_w i6_w hs
      obtain ⟨o1, o2⟩ := om1_w (show a_w + 1 < 1000 by omega)
      rw [o1, o2, on_n (show a_w < 1000 by omega), show 21 + 8 = 29 from rfl, i5_w a_w (by omega)] at hs
      split at hs
      · cases hs
      · have hs := Sum.inl.inj (Option.some.inj hs)
        rw [← hs]
        refine ⟨a_w, by omega, rfl, fun b_w hb_w => funext (fun j_w => ?_), i4_w, fun j_w hj => ?_, fun j_w j1 j2_w => ?_⟩
        · show (dc_wi m_w 29 (a_w + 1) _).1 b_w j_w = _
          rw [wi_k (by omega), i3_w b_w hb_w]
        · show (dc_wi m_w 29 (a_w + 1) _).1 29 j_w = _
          rw [wi_k (by omega)]; exact i5_w j_w (by omega)
        · show (dc_wi m_w 29 (a_w + 1) _).1 29 (j_w + 1) = _
          by_cases e_w : j_w = a_w
          · rw [e_w, wi_s]
          · rw [wi_k (by omega)]; exact i6_w j_w (by omega) j2_w
  · obtain ⟨i_w, i1_w, i2_w, i3_w, i4_w, i5_w, i6_w⟩ := hI
    obtain ⟨x_w, m_w⟩ := s
    have i2_w : x_w = Int32.ofNat i_w := i2_w
    have hs : d_X1_putInOrder_l5b 21 (Int32.ofNat l) x_w m_w = some (.inr u_w) := hs
    unfold d_X1_putInOrder_l5b at hs
    rw [i2_w, mk_i (by omega), on_n (show i_w < 1000 by omega)] at hs
    by_cases c1_w : (i_w : Int) ≤ 0
    · rw [if_pos c1_w] at hs
      exact fin_w i_w m_w u_w i1_w i3_w i4_w i5_w i6_w (Sum.inr.inj (Option.some.inj hs)).symm
    · rw [if_neg c1_w] at hs
      split at hs
      · exact fin_w i_w m_w u_w i1_w i3_w i4_w i5_w i6_w (Sum.inr.inj (Option.some.inj hs)).symm
      · cases hs
/-- a_w level's lightest cube and its reach, over the first p_w cubes -/
def LGw (ca : Nat → Nat → Bool) (wt : Nat → Nat) (p_w l : Nat) (a_w : Int32) (R_w : Int64) : Prop := ∃ w_w : Nat, a_w.toInt = w_w ∧ w_w ≤ 8448 ∧ (∀ q_w, q_w < p_w → ca q_w l = true → w_w ≤ wt q_w) ∧ ∀ q_w, q_w < p_w → ca q_w l = true → ∀ j_w, j_w < 64 → ca q_w j_w = true → mk_bt R_w j_w = true
/-- what is weighed of the levels below l -/
def WLw (n_w : Nat) (ca : Nat → Nat → Bool) (wt : Nat → Nat) (on_w : Int64) (m0_w : dc_M) (l : Nat) (z_w : dc_M) : Prop := ((∀ b_w, b_w ≠ 21 → b_w ≠ 26 → b_w ≠ 27 → b_w ≠ 29 → z_w.1 b_w = m0_w.1 b_w) ∧ (∀ k_w, k_w ≠ 9 → z_w.1 21 k_w = m0_w.1 21 k_w) ∧ (∀ b_w, b_w ≠ 28 → z_w.2.1 b_w = m0_w.2.1 b_w) ∧ z_w.2.2 = m0_w.2.2) ∧ (∀ u_w, u_w < l → mk_bt on_w u_w = true → LGw ca wt n_w u_w (z_w.1 27 u_w) (z_w.2.1 28 u_w)) ∧ ∃ k_w, k_w ≤ l ∧ z_w.1 21 9 = Int32.ofNat k_w ∧ (∀ i_w, i_w < k_w → ∃ u_w, u_w < l ∧ z_w.1 29 i_w = Int32.ofNat u_w ∧ mk_bt on_w u_w = true) ∧ ∀ u_w, u_w < l → mk_bt on_w u_w = true → ∃ i_w, i_w < k_w ∧ z_w.1 29 i_w = Int32.ofNat u_w
theorem wl1_w {n_w l : Nat} {ca : Nat → Nat → Bool} {wt : Nat → Nat} {on_w : Int64} {m0_w z_w : dc_M} {r_w : (Int32 × dc_M) ⊕ dc_M} (hn : m0_w.1 21 1 = Int32.ofNat n_w) (n7 : n_w ≤ 729) (hw : ∀ p_w, p_w < n_w → (m0_w.1 24 p_w).toInt = wt p_w ∧ wt p_w ≤ 8448) (hc_w : ∀ p_w, p_w < n_w → ∀ j_w, mk_bt (m0_w.2.1 25 p_w) j_w = ca p_w j_w) (hl : l < 64) (I_w : WLw n_w ca wt on_w m0_w l z_w) (h_w : d_X1_weighLevels_l7b 21 on_w (Int32.ofNat l) z_w = some r_w) : ∃ y_w, r_w = .inl (Int32.ofNat (l + 1), y_w) ∧ WLw n_w ca wt on_w m0_w (l + 1) y_w := by
  have l1 : Int32.ofNat l + 1 = Int32.ofNat (l + 1) := on_1 (by omega)
  have ln : (Int32.ofNat l).toNatClampNeg = l := on_n (by omega)
  unfold d_X1_weighLevels_l7b at h_w
  rw [mk_i (by omega), if_neg (show ¬ (64 : Int) ≤ l by omega), ubit_w on_w hl, l1, ln] at h_w
  obtain ⟨Z_w, hZ⟩ : ∃ Z_w, dc_wl (dc_wi (dc_wi z_w 26 l 0) 27 l 8448) 28 l 0 = Z_w := ⟨_, rfl⟩
  have z27 : Z_w.1 27 l = 8448 := by rw [← hZ]; exact wi_s
  have zf : ∀ b_w k_w, ¬ ((b_w = 26 ∨ b_w = 27) ∧ k_w = l) → Z_w.1 b_w k_w = z_w.1 b_w k_w := fun b_w k_w hb_w => by
    rw [← hZ]
    show (dc_wi (dc_wi z_w 26 l 0) 27 l 8448).1 b_w k_w = _
    rw [wi_k (by omega), wi_k (by omega)]
  have zl : ∀ b_w k_w, ¬ (b_w = 28 ∧ k_w = l) → Z_w.2.1 b_w k_w = z_w.2.1 b_w k_w := fun b_w k_w hb_w => by
    rw [← hZ]
    exact wlw_k (by omega)
  have z2 : Z_w.2.2 = z_w.2.2 := by rw [← hZ]; rfl
  obtain ⟨⟨f1_w, f2_w, f3_w, f4_w⟩, g_w, k_w, k1_w, k2_w, k3_w, k4_w⟩ := I_w
  have zb : ∀ b_w, b_w ≠ 26 → b_w ≠ 27 → Z_w.1 b_w = z_w.1 b_w := fun b_w h1 h2 => funext (fun k_w => zf b_w k_w (by omega))
  -- the frame behind
  have FR : ∀ Y : dc_M, (∀ b_w k_w, ¬ ((b_w = 26 ∨ b_w = 27) ∧ k_w = l) → b_w ≠ 21 → b_w ≠ 29 → Y.1 b_w k_w = z_w.1 b_w k_w) → (∀ j_w, j_w ≠ 9 → Y.1 21 j_w = z_w.1 21 j_w) → (∀ b_w j_w, ¬ (b_w = 28 ∧ j_w = l) → Y.2.1 b_w j_w = z_w.2.1 b_w j_w) → Y.2.2 = z_w.2.2 → ((∀ b_w, b_w ≠ 21 → b_w ≠ 26 → b_w ≠ 27 → b_w ≠ 29 → Y.1 b_w = m0_w.1 b_w) ∧ (∀ k_w, k_w ≠ 9 → Y.1 21 k_w = m0_w.1 21 k_w) ∧ (∀ b_w, b_w ≠ 28 → Y.2.1 b_w = m0_w.2.1 b_w) ∧ Y.2.2 = m0_w.2.2) ∧ ∀ u_w, u_w < l → mk_bt on_w u_w = true → LGw ca wt n_w u_w (Y.1 27 u_w) (Y.2.1 28 u_w) := fun Y y1 y2 y3 y4 => ⟨⟨fun b_w b1 b2 b3 b4 => (funext (fun k_w => y1 b_w k_w (by omega) b1 b4)).trans (f1_w b_w b1 b2 b3 b4), fun k_w hk => (y2 k_w hk).trans (f2_w k_w hk), fun b_w hb_w => (funext (fun k_w => y3 b_w k_w (by omega))).trans (f3_w b_w hb_w), y4.trans f4_w⟩, fun u_w hu ho => by rw [y1 27 u_w (by omega) (by decide) (by decide), y3 28 u_w (by omega)]; exact g_w u_w hu ho⟩
  by_cases b_w : mk_bt on_w l = true
  · rw [if_pos (fun q_w => by rw [cb0_w, b_w] at q_w; cases q_w)] at h_w
    have h_w : d_X1_weighLevels_l52 21 on_w (Int32.ofNat l) 0 (dc_wl (dc_wi (dc_wi z_w 26 l 0) 27 l 8448) 28 l 0) = some r_w := h_w
    rw [hZ] at h_w
    unfold d_X1_weighLevels_l52 at h_w
    refine dc_lp_inv (s := ((0 : Int32), Z_w)) (fun s : Int32 × dc_M => ∃ p_w, p_w ≤ n_w ∧ s.1 = Int32.ofNat p_w ∧ (∀ b_w k_w, ¬ ((b_w = 26 ∨ b_w = 27) ∧ k_w = l) → s.2.1 b_w k_w = z_w.1 b_w k_w) ∧ (∀ b_w k_w, ¬ (b_w = 28 ∧ k_w = l) → s.2.2.1 b_w k_w = z_w.2.1 b_w k_w) ∧ s.2.2.2 = z_w.2.2 ∧ LGw ca wt p_w l (s.2.1 27 l) (s.2.2.1 28 l)) (fun r_w => ∃ y_w, r_w = .inl (Int32.ofNat (l + 1), y_w) ∧ WLw n_w ca wt on_w m0_w (l + 1) y_w) (fun s s' hI hs => ?_) (fun s u_w hI hs => ?_) ⟨0, Nat.zero_le _, rfl, zf, zl, z2, 8448, by rw [z27]; rfl, Nat.le_refl _, fun q_w hq => absurd hq (Nat.not_lt_zero q_w), fun q_w hq => absurd hq (Nat.not_lt_zero q_w)⟩ h_w
    · obtain ⟨p_w, p1_w, p2_w, p3_w, p4_w, p5_w, p6_w⟩ := hI
      obtain ⟨x_w, m_w⟩ := s
      have p2_w : x_w = Int32.ofNat p_w := p2_w
      have p3_w : ∀ b_w k_w, ¬ ((b_w = 26 ∨ b_w = 27) ∧ k_w = l) → m_w.1 b_w k_w = z_w.1 b_w k_w := p3_w
      have p4_w : ∀ b_w k_w, ¬ (b_w = 28 ∧ k_w = l) → m_w.2.1 b_w k_w = z_w.2.1 b_w k_w := p4_w
      have p5_w : m_w.2.2 = z_w.2.2 := p5_w
      have p6_w : LGw ca wt p_w l (m_w.1 27 l) (m_w.2.1 28 l) := p6_w
      have hs : d_X1_weighLevels_l52b 21 on_w (Int32.ofNat l) x_w m_w = some (.inl s') := hs
      have mn_w : m_w.1 21 1 = Int32.ofNat n_w := by rw [p3_w 21 1 (by omega), f2_w 1 (by decide)]; exact hn
      have m25 : m_w.2.1 25 p_w = m0_w.2.1 25 p_w := by rw [p4_w 25 p_w (by omega), f3_w 25 (by decide)]
      have m24 : m_w.1 24 p_w = m0_w.1 24 p_w := by rw [p3_w 24 p_w (by omega), f1_w 24 (by decide) (by decide) (by decide) (by decide)]
      unfold d_X1_weighLevels_l52b at hs
      rw [p2_w, mn_w, mk_i (by omega), mk_i (by omega), on_n (show p_w < 1000 by omega), ln, on_1 (show p_w < 1000 by omega)] at hs
      by_cases c1_w : (n_w : Int) ≤ p_w
      · rw [if_pos c1_w] at hs
        generalize d_X1_weighLevels_b131 21 on_w (Int32.ofNat l) m_w = o at hs
        cases o <;> cases hs
      · rw [if_neg c1_w, show 21 + 4 = 25 from rfl, ubit_w _ hl, m25, hc_w p_w (by omega)] at hs
        obtain ⟨w_w, w1_w, w2_w, w3_w, w4_w⟩ := p6_w
        by_cases cb : ca p_w l = true
        · rw [if_neg (fun q_w => by rw [cb0_w, cb] at q_w; cases q_w)] at hs
          obtain ⟨Y, hY⟩ : ∃ Y, dc_wl (dc_wi (dc_wi m_w 26 l (m_w.1 26 l + 1)) 27 l (d_J9_min_7cf53 ((dc_wi m_w 26 l (m_w.1 26 l + 1)).1 27 l) ((dc_wi m_w 26 l (m_w.1 26 l + 1)).1 24 p_w) (dc_wi m_w 26 l (m_w.1 26 l + 1)))) 28 l (m_w.2.1 28 l ||| m0_w.2.1 25 p_w) = Y := ⟨_, rfl⟩
          have hs : (some (Sum.inl (Int32.ofNat (p_w + 1), Y)) : Option ((Int32 × dc_M) ⊕ ((Int32 × dc_M) ⊕ dc_M))) = some (.inl s') := by rw [← hY, ← m25]; exact hs
          have hs := Sum.inl.inj (Option.some.inj hs)
          rw [← hs]
          have y27 : Y.1 27 l = d_J9_min_7cf53 (m_w.1 27 l) (m0_w.1 24 p_w) (dc_wi m_w 26 l (m_w.1 26 l + 1)) := by
            rw [← hY]
            show (dc_wi (dc_wi m_w 26 l (m_w.1 26 l + 1)) 27 l _).1 27 l = _
            rw [wi_s, wi_k (by omega), wi_k (by omega), m24]
          have wp_w := hw p_w (by omega)
          refine ⟨p_w + 1, by omega, rfl, fun b_w k_w hb_w => ?_, fun b_w k_w hb_w => ?_, ?_, ?_⟩
          · show Y.1 b_w k_w = _
            rw [← hY]
            show (dc_wi (dc_wi m_w 26 l (m_w.1 26 l + 1)) 27 l _).1 b_w k_w = _
            rw [wi_k (by omega), wi_k (by omega)]
            exact p3_w b_w k_w hb_w
          · show Y.2.1 b_w k_w = _
            rw [← hY]
            exact (wlw_k (by omega)).trans (p4_w b_w k_w hb_w)
          · show Y.2.2 = _
            rw [← hY]
            exact p5_w
          · show LGw ca wt (p_w + 1) l (Y.1 27 l) (Y.2.1 28 l)
            have y28 : Y.2.1 28 l = m_w.2.1 28 l ||| m0_w.2.1 25 p_w := by rw [← hY]; exact wlw_s
            rw [y27, y28]
            unfold d_J9_min_7cf53
            have near_w : ∀ q_w, q_w < p_w + 1 → ca q_w l = true → ∀ j_w, j_w < 64 → ca q_w j_w = true → mk_bt (m_w.2.1 28 l ||| m0_w.2.1 25 p_w) j_w = true := fun q_w hq q1_w j_w hj q2_w => by
              rw [mk_or, Bool.or_eq_true]
              by_cases e_w : q_w = p_w
              · right; rw [hc_w p_w (by omega)]; rw [e_w] at q2_w; exact q2_w
              · exact Or.inl (w4_w q_w (by omega) q1_w j_w hj q2_w)
            by_cases lt_w : (m0_w.1 24 p_w).toInt < (m_w.1 27 l).toInt
            · rw [if_pos lt_w]
              refine ⟨wt p_w, wp_w.1, wp_w.2, fun q_w hq q1_w => ?_, near_w⟩
              by_cases e_w : q_w = p_w
              · rw [e_w]; exact Nat.le_refl _
              · have := w3_w q_w (by omega) q1_w; omega
            · rw [if_neg lt_w]
              refine ⟨w_w, w1_w, w2_w, fun q_w hq q1_w => ?_, near_w⟩
              by_cases e_w : q_w = p_w
              · rw [e_w]; omega
              · exact w3_w q_w (by omega) q1_w
        · rw [if_pos (cb0_w.mpr (eq_false_of_ne_true cb))] at hs
          have hs := Sum.inl.inj (Option.some.inj hs)
          rw [← hs]
          refine ⟨p_w + 1, by omega, rfl, p3_w, p4_w, p5_w, w_w, w1_w, w2_w, fun q_w hq q1_w => ?_, fun q_w hq q1_w => ?_⟩
          · by_cases e_w : q_w = p_w
            · rw [e_w] at q1_w; exact absurd q1_w cb
            · exact w3_w q_w (by omega) q1_w
          · by_cases e_w : q_w = p_w
            · rw [e_w] at q1_w; exact absurd q1_w cb
            · exact w4_w q_w (by omega) q1_w
    · obtain ⟨p_w, p1_w, p2_w, p3_w, p4_w, p5_w, p6_w⟩ := hI
      obtain ⟨x_w, m_w⟩ := s
      have p2_w : x_w = Int32.ofNat p_w := p2_w
      have p3_w : ∀ b_w k_w, ¬ ((b_w = 26 ∨ b_w = 27) ∧ k_w = l) → m_w.1 b_w k_w = z_w.1 b_w k_w := p3_w
      have p4_w : ∀ b_w k_w, ¬ (b_w = 28 ∧ k_w = l) → m_w.2.1 b_w k_w = z_w.2.1 b_w k_w := p4_w
      have p5_w : m_w.2.2 = z_w.2.2 := p5_w
      have p6_w : LGw ca wt p_w l (m_w.1 27 l) (m_w.2.1 28 l) := p6_w
      have hs : d_X1_weighLevels_l52b 21 on_w (Int32.ofNat l) x_w m_w = some (.inr u_w) := hs
      have mn_w : m_w.1 21 1 = Int32.ofNat n_w := by rw [p3_w 21 1 (by omega), f2_w 1 (by decide)]; exact hn
      unfold d_X1_weighLevels_l52b at hs
      rw [p2_w, mn_w, mk_i (by omega), mk_i (by omega)] at hs
      by_cases c1_w : (n_w : Int) ≤ p_w
      · rw [if_pos c1_w] at hs
        have pn : p_w = n_w := by omega
        rw [pn] at p6_w
        unfold d_X1_weighLevels_b131 at hs
        cases hq : d_X1_putInOrder 21 (Int32.ofNat l) m_w with
        | none => rw [hq] at hs; cases hs
        | some e_w =>
          rw [hq, Option.bind_some, l1] at hs
          have hs := Sum.inr.inj (Option.some.inj hs)
          have m9_w : m_w.1 21 9 = Int32.ofNat k_w := by rw [p3_w 21 9 (by omega)]; exact k2_w
          obtain ⟨o1, o2, o3_w, o4_w, i_w, o5_w, o6, o7, o8_w⟩ := pio_w m9_w (show k_w ≤ 64 by omega) hq
          have fr_w := FR e_w (fun b_w j_w hb_w b1 b2 => by rw [o1 b_w b1 b2]; exact p3_w b_w j_w hb_w) (fun j_w hj => by rw [o2 j_w hj]; exact p3_w 21 j_w (by omega)) (fun b_w j_w hb_w => by rw [o3_w]; exact p4_w b_w j_w hb_w) (by rw [o3_w]; exact p5_w)
          refine ⟨e_w, hs.symm, fr_w.1, fun u_w hu ho => ?_, k_w + 1, by omega, o4_w, fun j_w hj => ?_, fun u_w hu ho => ?_⟩
          · by_cases y_w : u_w = l
            · rw [y_w, o1 27 (by decide) (by decide), o3_w]; exact p6_w
            · exact fr_w.2 u_w (by omega) ho
          · by_cases y1 : j_w < i_w
            · obtain ⟨u_w, u1_w, u2_w, u3⟩ := k3_w j_w (by omega)
              exact ⟨u_w, by omega, by rw [o6 j_w y1, p3_w 29 j_w (by omega)]; exact u2_w, u3⟩
            · by_cases y2 : j_w = i_w
              · exact ⟨l, by omega, by rw [y2]; exact o7, b_w⟩
              · obtain ⟨a_w, ha_w⟩ : ∃ a_w, j_w = a_w + 1 := ⟨j_w - 1, by omega⟩
                obtain ⟨u_w, u1_w, u2_w, u3⟩ := k3_w a_w (by omega)
                exact ⟨u_w, by omega, by rw [ha_w, o8_w a_w (by omega) (by omega), p3_w 29 a_w (by omega)]; exact u2_w, u3⟩
          · by_cases y_w : u_w = l
            · exact ⟨i_w, by omega, by rw [y_w]; exact o7⟩
            · obtain ⟨j_w, j1, j2_w⟩ := k4_w u_w (by omega) ho
              by_cases y1 : j_w < i_w
              · exact ⟨j_w, by omega, by rw [o6 j_w y1, p3_w 29 j_w (by omega)]; exact j2_w⟩
              · exact ⟨j_w + 1, by omega, by rw [o8_w j_w (by omega) j1, p3_w 29 j_w (by omega)]; exact j2_w⟩
      · rw [if_neg c1_w] at hs
        split at hs <;> cases hs
  · rw [if_neg (fun q_w => q_w (cb0_w.mpr (eq_false_of_ne_true b_w)))] at h_w
    have h_w : some (Sum.inl (Int32.ofNat (l + 1), dc_wl (dc_wi (dc_wi z_w 26 l 0) 27 l 8448) 28 l 0)) = some r_w := h_w
    rw [hZ] at h_w
    have fr_w := FR Z_w (fun b_w j_w hb_w _ _ => zf b_w j_w hb_w) (fun j_w hj => zf 21 j_w (by omega)) (fun b_w j_w hb_w => zl b_w j_w hb_w) z2
    refine ⟨Z_w, (Option.some.inj h_w).symm, fr_w.1, fun u_w hu ho => ?_, k_w, by omega, by rw [zf 21 9 (by omega)]; exact k2_w, fun j_w hj => ?_, fun u_w hu ho => ?_⟩
    · by_cases y_w : u_w = l
      · rw [y_w] at ho; exact absurd ho b_w
      · exact fr_w.2 u_w (by omega) ho
    · obtain ⟨u_w, u1_w, u2_w, u3⟩ := k3_w j_w hj
      exact ⟨u_w, by omega, by rw [zf 29 j_w (by omega)]; exact u2_w, u3⟩
    · by_cases y_w : u_w = l
      · rw [y_w] at ho; exact absurd ho b_w
      · obtain ⟨j_w, j1, j2_w⟩ := k4_w u_w (by omega) ho
        exact ⟨j_w, j1, by rw [zf 29 j_w (by omega)]; exact j2_w⟩
theorem wl_w {n_w : Nat} {ca : Nat → Nat → Bool} {wt : Nat → Nat} {on_w : Int64} {m0_w m' : dc_M} (hn : m0_w.1 21 1 = Int32.ofNat n_w) (n7 : n_w ≤ 729) (hw : ∀ p_w, p_w < n_w → (m0_w.1 24 p_w).toInt = wt p_w ∧ wt p_w ≤ 8448) (hc_w : ∀ p_w, p_w < n_w → ∀ j_w, mk_bt (m0_w.2.1 25 p_w) j_w = ca p_w j_w) (h_w : d_X1_weighLevels 21 on_w m0_w = some m') : WLw n_w ca wt on_w m0_w 64 m' := by
  unfold d_X1_weighLevels d_X1_weighLevels_l7 at h_w
  refine dc_lp_inv (s := ((0 : Int32), dc_wi m0_w 21 9 0)) (fun s : Int32 × dc_M => ∃ l, l ≤ 64 ∧ s.1 = Int32.ofNat l ∧ WLw n_w ca wt on_w m0_w l s.2) (fun u_w => WLw n_w ca wt on_w m0_w 64 u_w) (fun s s' hI hs => ?_) (fun s u_w hI hs => ?_) ⟨0, Nat.zero_le _, rfl, ⟨fun b_w b1 _ _ _ => funext (fun k_w => wi_k (by omega)), fun k_w hk => wi_k (by omega), fun _ _ => rfl, rfl⟩, fun u_w hu => absurd hu (Nat.not_lt_zero u_w), 0, Nat.le_refl _, wi_s, fun i_w hi_w => absurd hi_w (Nat.not_lt_zero i_w), fun u_w hu => absurd hu (Nat.not_lt_zero u_w)⟩ h_w
  · obtain ⟨l, i1_w, i2_w, i3_w⟩ := hI
    have hs : d_X1_weighLevels_l7b 21 on_w s.1 s.2 = some (.inl s') := hs
    rw [i2_w] at hs
    by_cases c_w : l < 64
    · obtain ⟨y_w, r1_w, r2⟩ := wl1_w hn n7 hw hc_w c_w i3_w hs
      have r1_w := Sum.inl.inj r1_w
      rw [r1_w]
      exact ⟨l + 1, by omega, rfl, r2⟩
    · unfold d_X1_weighLevels_l7b at hs
      rw [mk_i (by omega), if_pos (show (64 : Int) ≤ l by omega)] at hs
      cases hs
  · obtain ⟨l, i1_w, i2_w, i3_w⟩ := hI
    have hs : d_X1_weighLevels_l7b 21 on_w s.1 s.2 = some (.inr u_w) := hs
    rw [i2_w] at hs
    by_cases c_w : l < 64
    · obtain ⟨y_w, r1_w, r2⟩ := wl1_w hn n7 hw hc_w c_w i3_w hs
      cases r1_w
    · unfold d_X1_weighLevels_l7b at hs
      rw [mk_i (by omega), if_pos (show (64 : Int) ≤ l by omega)] at hs
      have hs := Sum.inr.inj (Option.some.inj hs)
      rw [← hs, ← show l = 64 by omega]
      exact i3_w
