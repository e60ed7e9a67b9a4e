/-! ===== quarrels: the class, all in all ===== -/
theorem fq_run {lv : Nat → Nat} {E : Nat → Int32} {made_w : Int32} {n : Nat} {m_w e_w : dc_M} (hn : n ≤ 200) (h40 : (m_w.1 4 0).toInt = n) (hlv : ∀ t_w, t_w < n → ((m_w.1 7 t_w) &&& 63).toNatClampNeg = lv t_w ∧ lv t_w < 64) (hE : ∀ t_w, t_w < n → m_w.1 8 t_w = E t_w) (len_w : (m_w.2.2.2 13).2 = 64) (h_w : d_X0_findQuarrels 12 made_w 4 m_w = some e_w) : QSw lv E made_w n e_w ∧ (∀ b_w j_w, b_w ≠ 13 → b_w ≠ 14 → ¬ (b_w = 12 ∧ j_w ≤ 3) → e_w.1 b_w j_w = m_w.1 b_w j_w) ∧ e_w.2 = m_w.2 := by
  unfold d_X0_findQuarrels at h_w
  have v0_w : (dc_wi (dc_wi (dc_wi (dc_wi m_w 12 0 0) 12 1 0) 12 2 (-4)) 12 3 (-4)).1 12 0 = 0 := by rw [wi_k (by omega), wi_k (by omega), wi_k (by omega)]; exact wi_s
  have v1_w : (dc_wi (dc_wi (dc_wi (dc_wi m_w 12 0 0) 12 1 0) 12 2 (-4)) 12 3 (-4)).1 12 1 = 0 := by rw [wi_k (by omega), wi_k (by omega)]; exact wi_s
  have v2 : (dc_wi (dc_wi (dc_wi (dc_wi m_w 12 0 0) 12 1 0) 12 2 (-4)) 12 3 (-4)).1 12 2 = -4 := by rw [wi_k (by omega)]; exact wi_s
  have v3 : (dc_wi (dc_wi (dc_wi (dc_wi m_w 12 0 0) 12 1 0) 12 2 (-4)) 12 3 (-4)).1 12 3 = -4 := wi_s
  have vo : ∀ b_w j_w, ¬ (b_w = 12 ∧ j_w ≤ 3) → (dc_wi (dc_wi (dc_wi (dc_wi m_w 12 0 0) 12 1 0) 12 2 (-4)) 12 3 (-4)).1 b_w j_w = m_w.1 b_w j_w := fun b_w j_w hb_w => by rw [wi_k (by omega), wi_k (by omega), wi_k (by omega), wi_k (by omega)]
  have vz : (dc_wi (dc_wi (dc_wi (dc_wi m_w 12 0 0) 12 1 0) 12 2 (-4)) 12 3 (-4)).2 = m_w.2 := rfl
  have h_w : (d_J7_fill_53178 13 (-4) (dc_wi (dc_wi (dc_wi (dc_wi m_w 12 0 0) 12 1 0) 12 2 (-4)) 12 3 (-4))).bind (fun q1_w => d_X0_findQuarrels_l33 12 made_w 4 0 q1_w) = some e_w := h_w
  generalize dc_wi (dc_wi (dc_wi (dc_wi m_w 12 0 0) 12 1 0) 12 2 (-4)) 12 3 (-4) = m1 at *
  cases hf : d_J7_fill_53178 13 (-4) m1 with
  | none => rw [hf] at h_w; cases h_w
  | some m2 =>
    rw [hf, Option.bind_some] at h_w
    obtain ⟨r1_w, r2, r3⟩ := fi_run (n := 64) (by rw [vz]; exact len_w) (by decide) hf
    have w_w : ∀ b_w j_w, b_w ≠ 13 → m2.1 b_w j_w = m1.1 b_w j_w := fun b_w j_w hb_w => by rw [r2 b_w hb_w]
    unfold d_X0_findQuarrels_l33 at h_w
    refine dc_lp_inv (s := ((0 : Int32), m2)) (fun z_w : Int32 × dc_M => ∃ s : Nat, s ≤ n ∧ z_w.1 = Int32.ofNat s ∧ QSw lv E made_w s z_w.2 ∧ HLw lv s (z_w.2.1 13) (z_w.2.1 14) ∧ (∀ b_w j_w, b_w ≠ 13 → b_w ≠ 14 → ¬ (b_w = 12 ∧ j_w ≤ 3) → z_w.2.1 b_w j_w = m_w.1 b_w j_w) ∧ z_w.2.2 = m_w.2) (fun e_w : dc_M => QSw lv E made_w n e_w ∧ (∀ b_w j_w, b_w ≠ 13 → b_w ≠ 14 → ¬ (b_w = 12 ∧ j_w ≤ 3) → e_w.1 b_w j_w = m_w.1 b_w j_w) ∧ e_w.2 = m_w.2) (fun z_w z' hI hz => ?_) (fun z_w e_w hI hz => ?_) ⟨0, Nat.zero_le _, rfl, ⟨?_, ?_, ?_⟩, ⟨fun l hl => r3 l hl, fun t_w ht => absurd ht (Nat.not_lt_zero _)⟩, fun b_w j_w h1 h2 h3 => (w_w b_w j_w h1).trans (vo b_w j_w h3), r1_w.trans vz⟩ h_w
    · obtain ⟨s, s1_w, s2_w, s3_w, s4_w, s5, s6_w⟩ := hI
      obtain ⟨x3, zm⟩ := z_w
      have s2_w : x3 = Int32.ofNat s := s2_w
      have s3_w : QSw lv E made_w s zm := s3_w
      have s4_w : HLw lv s (zm.1 13) (zm.1 14) := s4_w
      have s5 : ∀ b_w j_w, b_w ≠ 13 → b_w ≠ 14 → ¬ (b_w = 12 ∧ j_w ≤ 3) → zm.1 b_w j_w = m_w.1 b_w j_w := s5
      have s6_w : zm.2 = m_w.2 := s6_w
      have hz : d_X0_findQuarrels_l33b 12 made_w 4 x3 zm = some (.inl z') := hz
      unfold d_X0_findQuarrels_l33b at hz
      have xs : x3.toInt = s := by rw [s2_w]; exact mk_i (by omega)
      have xn := cl_n (x := x3) (by omega)
      have xe : x3.toNatClampNeg = s := by omega
      rw [s5 4 0 (by omega) (by omega) (by omega), h40, xs] at hz
      by_cases c_w : (n : Int) ≤ s
      · rw [if_pos c_w] at hz; cases hz
      · rw [if_neg c_w] at hz
        obtain ⟨l1, l2⟩ := hlv s (by omega)
        rw [show 4 + 3 = 7 from rfl, show 12 + 1 = 13 from rfl, xe, s5 7 s (by omega) (by omega) (by omega), s2_w] at hz
        obtain ⟨m', u1_w, u2_w, u3, u4_w, u5⟩ := l64_run (by omega) l1 l2 (fun t_w ht => (s5 8 t_w (by omega) (by omega) (by omega)).trans (hE t_w (by omega))) s3_w s4_w hz
        have u1_w := Sum.inl.inj u1_w
        rw [u1_w]
        refine ⟨s + 1, by omega, ?_, u2_w, u3, fun b_w j_w h1 h2 h3 => (u4_w b_w j_w h1 h2 h3).trans (s5 b_w j_w h1 h2 h3), u5.trans s6_w⟩
        show Int32.ofNat s + 1 = Int32.ofNat (s + 1)
        refine Int32.toInt_inj.mp ?_
        rw [i1 (by rw [mk_i (by omega)]; omega) (Int32.le_toInt _), mk_i (by omega), mk_i (by omega)]
        omega
    · obtain ⟨s, s1_w, s2_w, s3_w, s4_w, s5, s6_w⟩ := hI
      obtain ⟨x3, zm⟩ := z_w
      have s2_w : x3 = Int32.ofNat s := s2_w
      have s3_w : QSw lv E made_w s zm := s3_w
      have s4_w : HLw lv s (zm.1 13) (zm.1 14) := s4_w
      have s5 : ∀ b_w j_w, b_w ≠ 13 → b_w ≠ 14 → ¬ (b_w = 12 ∧ j_w ≤ 3) → zm.1 b_w j_w = m_w.1 b_w j_w := s5
      have s6_w : zm.2 = m_w.2 := s6_w
      have hz : d_X0_findQuarrels_l33b 12 made_w 4 x3 zm = some (.inr e_w) := hz
      unfold d_X0_findQuarrels_l33b at hz
      have xs : x3.toInt = s := by rw [s2_w]; exact mk_i (by omega)
      have xn := cl_n (x := x3) (by omega)
      have xe : x3.toNatClampNeg = s := by omega
      rw [s5 4 0 (by omega) (by omega) (by omega), h40, xs] at hz
      by_cases c_w : (n : Int) ≤ s
      · rw [if_pos c_w] at hz
        have hz := Sum.inr.inj (Option.some.inj hz)
        rw [← hz]
        have e_w : s = n := by omega
        rw [e_w] at s3_w
        exact ⟨s3_w, s5, s6_w⟩
      · rw [if_neg c_w] at hz
        obtain ⟨l1, l2⟩ := hlv s (by omega)
        rw [show 4 + 3 = 7 from rfl, show 12 + 1 = 13 from rfl, xe, s5 7 s (by omega) (by omega) (by omega), s2_w] at hz
        obtain ⟨m', u1_w, -⟩ := l64_run (by omega) l1 l2 (fun t_w ht => (s5 8 t_w (by omega) (by omega) (by omega)).trans (hE t_w (by omega))) s3_w s4_w hz
        cases u1_w
    · show (m2.1 12 0).toInt = _
      rw [w_w 12 0 (by decide), v0_w]
      rfl
    · show (m2.1 12 1).toInt = _
      rw [w_w 12 1 (by decide), v1_w]
      rfl
    · show FPw _ _ (m2.1 12 2) (m2.1 12 3) (m2.1 12 1)
      rw [w_w 12 1 (by decide), w_w 12 2 (by decide), w_w 12 3 (by decide), v1_w, v2, v3]
      exact Or.inl ⟨rfl, rfl, rfl, fun t_w u_w hx => absurd hx.2 (Nat.not_lt_zero _)⟩
