/-! ===== a cube's levels, on both sides ===== -/
theorem bt_ext {x_w y_w : Int64} (h_w : ∀ i, i < 64 → mk_bt x_w i = mk_bt y_w i) : x_w = y_w := Int64.toBitVec_inj.mp (BitVec.eq_of_getLsbD_eq (fun i hi_w => h_w i hi_w))
theorem lv_uq {W_w c l : Nat} {X_w Y : Int64} (h1 : lv_X W_w c l X_w) (h2 : lv_X W_w c l Y) : X_w = Y := bt_ext (fun i hi_w => Bool.eq_iff_iff.mpr ((h1 i hi_w).trans (h2 i hi_w).symm))
theorem hi_w {i l : Nat} (hi_w : i < 6) (hl : l < 64) : mk_bt (ab_hi i) l = decide (lc_bt l i = 1) := by
  have : ((List.range 6).all fun i => (List.range 64).all fun l => mk_bt (ab_hi i) l == decide (lc_bt l i = 1)) = true := by decide +kernel
  exact eq_of_beq (List.all_eq_true.mp (List.all_eq_true.mp this i (List.mem_range.mpr hi_w)) l (List.mem_range.mpr hl))
theorem al6_w {W_w l : Nat} (hW : W_w < 6) (hl : l < 64) : mk_bt (((1 : Int64) <<< (Int32.toInt64 ((1 : Int32) <<< (Int32.ofNat W_w &&& 31)) &&& 63)) - 1) l = decide (l < 2 ^ W_w) := by
  have : ((List.range 6).all fun W_w => (List.range 64).all fun l => mk_bt (((1 : Int64) <<< (Int32.toInt64 ((1 : Int32) <<< (Int32.ofNat W_w &&& 31)) &&& 63)) - 1) l == decide (l < 2 ^ W_w)) = true := by decide +kernel
  exact eq_of_beq (List.all_eq_true.mp (List.all_eq_true.mp this W_w (List.mem_range.mpr hW)) l (List.mem_range.mpr hl))
theorem am1_w {l : Nat} (hl : l < 64) : mk_bt (-1) l = true := by
  have : ((List.range 64).all fun l => mk_bt (-1) l) = true := by decide +kernel
  exact List.all_eq_true.mp this l (List.mem_range.mpr hl)
theorem bt2_w (l i : Nat) : lc_bt l i = 0 ∨ lc_bt l i = 1 := by
  have : lc_bt l i < 2 := Nat.mod_lt _ (by decide)
  omega
theorem dg3_w (c i : Nat) : dg c i < 3 := Nat.mod_lt _ (by decide)
theorem md3_w {c j_w : Nat} (hc_w : c < 1000) : Int32.ofNat (c / 3 ^ j_w) - Int32.ofNat (c / 3 ^ j_w) / 3 * 3 = Int32.ofNat (dg c j_w) := lc_mod (a := c / 3 ^ j_w) (b := 3) (by have := lc_q (i := j_w) hc_w; omega) (by decide)
theorem dv3_w {c j_w : Nat} (hc_w : c < 1000) : Int32.ofNat (c / 3 ^ j_w) / 3 = Int32.ofNat (c / 3 ^ (j_w + 1)) := by
  rw [← lc_qs]
  exact lc_div (a := c / 3 ^ j_w) (b := 3) (by have := lc_q (i := j_w) hc_w; omega) (by decide)
/-- the class's way -/
theorem li_run {W_w c : Nat} {m_w : dc_M} {X_w : Int64} (hW : W_w ≤ 6) (hc_w : c < 1000) (h_w : d_X8_levelsIn (Int32.ofNat c) (Int32.ofNat W_w) m_w = some X_w) : lv_X W_w c (2 ^ W_w) X_w := by
  have wt : (Int32.ofNat W_w).toInt = W_w := mk_i (by omega)
  have core_w : ∀ x2_w : Int64, (∀ l, l < 64 → mk_bt x2_w l = decide (l < 2 ^ W_w)) → d_X8_levelsIn_l26 (Int32.ofNat W_w) x2_w (Int32.ofNat c) 0 m_w = some X_w → lv_X W_w c (2 ^ W_w) X_w := fun x2_w hx h_w => by
    unfold d_X8_levelsIn_l26 at h_w
    refine dc_lp_inv (s := (x2_w, Int32.ofNat c, (0 : Int32))) (fun z_w : Int64 × Int32 × Int32 => ∃ j_w : Nat, j_w ≤ W_w ∧ z_w.2.2 = Int32.ofNat j_w ∧ z_w.2.1 = Int32.ofNat (c / 3 ^ j_w) ∧ ∀ l, l < 64 → (mk_bt z_w.1 l = true ↔ l < 2 ^ W_w ∧ lc_C j_w c l)) (fun X_w : Int64 => lv_X W_w c (2 ^ W_w) X_w) (fun z_w z' hI hz => ?_) (fun z_w X_w hI hz => ?_) ⟨0, Nat.zero_le _, rfl, by show Int32.ofNat c = _; rw [Nat.pow_zero, Nat.div_one], fun l hl => by show mk_bt x2_w l = true ↔ _; rw [hx l hl, decide_eq_true_iff]; exact ⟨fun q_w => ⟨q_w, fun i hi_w => absurd hi_w (Nat.not_lt_zero i)⟩, fun q_w => q_w.1⟩⟩ h_w
    · obtain ⟨j_w, j1, j2_w, j3_w, j4_w⟩ := hI
      obtain ⟨y2, x4_w, x5_w⟩ := z_w
      have j2_w : x5_w = Int32.ofNat j_w := j2_w
      have j3_w : x4_w = Int32.ofNat (c / 3 ^ j_w) := j3_w
      have j4_w : ∀ l, l < 64 → (mk_bt y2 l = true ↔ l < 2 ^ W_w ∧ lc_C j_w c l) := j4_w
      have hz : d_X8_levelsIn_l26b (Int32.ofNat W_w) y2 x4_w x5_w m_w = some (.inl z') := hz
      unfold d_X8_levelsIn_l26b at hz
      have jt : (Int32.ofNat j_w).toInt = j_w := mk_i (by omega)
      have jn : (Int32.ofNat j_w).toNatClampNeg = j_w := on_n (by omega)
      have d3_w := dg3_w c j_w
      have dt : (Int32.ofNat (dg c j_w)).toInt = ((dg c j_w : Nat) : Int) := mk_i (by omega)
      rw [j2_w, j3_w, wt, jt, jn, md3_w hc_w, dv3_w hc_w, dt] at hz
      by_cases c1_w : (W_w : Int) ≤ j_w
      · rw [if_pos c1_w] at hz; cases hz
      · rw [if_neg c1_w, if_neg (show ¬ (6 : Int) ≤ j_w by omega)] at hz
        have fin_w : ∀ y_w : Int64, (∀ l, l < 64 → (mk_bt y_w l = true ↔ mk_bt y2 l = true ∧ (dg c j_w = 2 ∨ dg c j_w = lc_bt l j_w))) → ∀ l, l < 64 → (mk_bt y_w l = true ↔ l < 2 ^ W_w ∧ lc_C (j_w + 1) c l) := fun y_w hy l hl => by
          rw [hy l hl, j4_w l hl, lc_Cs, and_assoc]
        by_cases c2_w : ((dg c j_w : Nat) : Int) = 0
        · rw [if_neg (fun q_w => q_w c2_w)] at hz
          have hz := Sum.inl.inj (Option.some.inj hz)
          rw [← hz]
          refine ⟨j_w + 1, by omega, on_1 (by omega), rfl, fin_w _ (fun l hl => ?_)⟩
          have b := bt2_w l j_w
          show mk_bt (y2 &&& (ab_hi j_w ^^^ -1)) l = true ↔ _
          rw [mk_and, mk_not _ hl, hi_w (by omega) hl, Bool.and_eq_true]
          refine and_congr_right (fun _ => ?_)
          rcases b with b | b
          · rw [b, decide_eq_false (show ¬ (0 : Nat) = 1 by decide)]
            exact ⟨fun _ => Or.inr (by omega), fun _ => rfl⟩
          · rw [b, decide_eq_true (show (1 : Nat) = 1 from rfl)]
            exact ⟨fun q_w => absurd q_w (by decide), fun q_w => by omega⟩
        · rw [if_pos c2_w] at hz
          by_cases c3_w : ((dg c j_w : Nat) : Int) = 1
          · rw [if_neg (fun q_w => q_w c3_w)] at hz
            have hz := Sum.inl.inj (Option.some.inj hz)
            rw [← hz]
            refine ⟨j_w + 1, by omega, on_1 (by omega), rfl, fin_w _ (fun l hl => ?_)⟩
            show mk_bt (y2 &&& ab_hi j_w) l = true ↔ _
            rw [mk_and, hi_w (by omega) hl, Bool.and_eq_true, decide_eq_true_iff]
            exact and_congr_right (fun _ => by omega)
          · rw [if_pos c3_w] at hz
            have hz := Sum.inl.inj (Option.some.inj hz)
            rw [← hz]
            refine ⟨j_w + 1, by omega, on_1 (by omega), rfl, fin_w _ (fun l hl => ?_)⟩
            exact ⟨fun q_w => ⟨q_w, by omega⟩, fun q_w => q_w.1⟩
    · obtain ⟨j_w, j1, j2_w, j3_w, j4_w⟩ := hI
      obtain ⟨y2, x4_w, x5_w⟩ := z_w
      have j2_w : x5_w = Int32.ofNat j_w := j2_w
      have j4_w : ∀ l, l < 64 → (mk_bt y2 l = true ↔ l < 2 ^ W_w ∧ lc_C j_w c l) := j4_w
      have hz : d_X8_levelsIn_l26b (Int32.ofNat W_w) y2 x4_w x5_w m_w = some (.inr X_w) := hz
      unfold d_X8_levelsIn_l26b at hz
      have jt : (Int32.ofNat j_w).toInt = j_w := mk_i (by omega)
      rw [j2_w, wt, jt] at hz
      by_cases c1_w : (W_w : Int) ≤ j_w
      · rw [if_pos c1_w] at hz
        have hz := Sum.inr.inj (Option.some.inj hz)
        rw [← hz]
        have je : j_w = W_w := by omega
        rw [je] at j4_w
        exact j4_w
      · rw [if_neg c1_w, if_neg (show ¬ (6 : Int) ≤ j_w by omega)] at hz
        split at hz
        · split at hz
          · cases hz
          · cases hz
        · cases hz
  unfold d_X8_levelsIn at h_w
  by_cases c6_w : W_w < 6
  · rw [wt, if_pos (by omega)] at h_w
    exact core_w _ (fun l hl => al6_w c6_w hl) h_w
  · rw [wt, if_neg (by omega)] at h_w
    refine core_w _ (fun l hl => ?_) h_w
    rw [am1_w hl, show W_w = 6 by omega]
    exact (decide_eq_true (show l < 2 ^ 6 from hl)).symm
/-- the reference's way -/
theorem l25_w {W_w c l : Nat} {X_w : Int64} {m_w : dc_M} {r_w : (Int64 × Int32) ⊕ Int64} (h0 : m_w.1 82 0 = Int32.ofNat W_w) (hW : W_w ≤ 6) (hc_w : c < 1000) (hl : l < 64) (h_w : d_X10_levelsOf_l25 82 (Int32.ofNat c) X_w (Int32.ofNat l) (Int32.ofNat c) 1 0 m_w = some r_w) : ∃ F_w, lv_F c l W_w F_w ∧ d_X10_levelsOf_b82 82 (Int32.ofNat c) X_w (Int32.ofNat l) F_w m_w = some r_w := by
  have wt : (Int32.ofNat W_w).toInt = W_w := mk_i (by omega)
  unfold d_X10_levelsOf_l25 at h_w
  refine dc_lp_inv (s := (Int32.ofNat c, (1 : Int32), (0 : Int32))) (fun z_w : Int32 × Int32 × Int32 => ∃ j_w : Nat, j_w ≤ W_w ∧ z_w.2.2 = Int32.ofNat j_w ∧ z_w.1 = Int32.ofNat (c / 3 ^ j_w) ∧ lv_F c l j_w z_w.2.1) (fun r_w : (Int64 × Int32) ⊕ Int64 => ∃ F_w, lv_F c l W_w F_w ∧ d_X10_levelsOf_b82 82 (Int32.ofNat c) X_w (Int32.ofNat l) F_w m_w = some r_w) (fun z_w z' hI hz => ?_) (fun z_w r_w hI hz => ?_) ⟨0, Nat.zero_le _, rfl, by show Int32.ofNat c = _; rw [Nat.pow_zero, Nat.div_one], Or.inl ⟨rfl, fun i hi_w => absurd hi_w (Nat.not_lt_zero i)⟩⟩ h_w
  · obtain ⟨j_w, j1, j2_w, j3_w, j4_w⟩ := hI
    obtain ⟨x5_w, x6, x7⟩ := z_w
    have j2_w : x7 = Int32.ofNat j_w := j2_w
    have j3_w : x5_w = Int32.ofNat (c / 3 ^ j_w) := j3_w
    have j4_w : lv_F c l j_w x6 := j4_w
    have hz : d_X10_levelsOf_l25b 82 (Int32.ofNat c) X_w (Int32.ofNat l) x5_w x6 x7 m_w = some (.inl z') := hz
    unfold d_X10_levelsOf_l25b at hz
    have jt : (Int32.ofNat j_w).toInt = j_w := mk_i (by omega)
    have d3_w := dg3_w c j_w
    have dt : (Int32.ofNat (dg c j_w)).toInt = ((dg c j_w : Nat) : Int) := mk_i (by omega)
    rw [j2_w, j3_w, h0, wt, jt, md3_w hc_w, dv3_w hc_w, dt] at hz
    by_cases c1_w : (W_w : Int) ≤ j_w
    · rw [if_pos c1_w] at hz
      generalize d_X10_levelsOf_b82 82 _ X_w _ x6 m_w = o at hz
      cases o with
      | none => cases hz
      | some q_w => cases hz
    · rw [if_neg c1_w, lc_bit hl (show j_w < 6 by omega)] at hz
      have b := bt2_w l j_w
      have bt_w : (Int32.ofNat (l / 2 ^ j_w % 2)).toInt = ((lc_bt l j_w : Nat) : Int) := mk_i (show l / 2 ^ j_w % 2 < 2147483648 by have : l / 2 ^ j_w % 2 < 2 := Nat.mod_lt _ (by decide); omega)
      rw [bt_w] at hz
      by_cases c2_w : x6.toInt = 0
      · rw [if_pos c2_w] at hz
        have hz := Sum.inl.inj (Option.some.inj hz)
        rw [← hz]
        refine ⟨j_w + 1, by omega, on_1 (by omega), rfl, Or.inr ⟨rfl, fun q_w => ?_⟩⟩
        rcases j4_w with ⟨r1_w, -⟩ | ⟨-, r2⟩
        · rw [r1_w] at c2_w
          exact absurd c2_w (by decide)
        · exact r2 (lc_Cs.mp q_w).1
      · rw [if_neg c2_w] at hz
        have hC : lc_C j_w c l := by
          rcases j4_w with ⟨-, r2⟩ | ⟨r1_w, -⟩
          · exact r2
          · rw [r1_w] at c2_w
            exact absurd rfl c2_w
        by_cases c3_w : ((dg c j_w : Nat) : Int) = 2
        · rw [if_pos c3_w] at hz
          have hz := Sum.inl.inj (Option.some.inj hz)
          rw [← hz]
          exact ⟨j_w + 1, by omega, on_1 (by omega), rfl, Or.inl ⟨rfl, lc_Cs.mpr ⟨hC, Or.inl (by omega)⟩⟩⟩
        · rw [if_neg c3_w] at hz
          by_cases c4_w : ((dg c j_w : Nat) : Int) = ((lc_bt l j_w : Nat) : Int)
          · rw [if_neg (fun q_w => q_w c4_w)] at hz
            have hz := Sum.inl.inj (Option.some.inj hz)
            rw [← hz]
            exact ⟨j_w + 1, by omega, on_1 (by omega), rfl, Or.inl ⟨rfl, lc_Cs.mpr ⟨hC, Or.inr (by omega)⟩⟩⟩
          · rw [if_pos c4_w] at hz
            have hz := Sum.inl.inj (Option.some.inj hz)
            rw [← hz]
            refine ⟨j_w + 1, by omega, on_1 (by omega), rfl, Or.inr ⟨rfl, fun q_w => ?_⟩⟩
            have := (lc_Cs.mp q_w).2
            omega
  · obtain ⟨j_w, j1, j2_w, j3_w, j4_w⟩ := hI
    obtain ⟨x5_w, x6, x7⟩ := z_w
    have j2_w : x7 = Int32.ofNat j_w := j2_w
    have j4_w : lv_F c l j_w x6 := j4_w
    have hz : d_X10_levelsOf_l25b 82 (Int32.ofNat c) X_w (Int32.ofNat l) x5_w x6 x7 m_w = some (.inr r_w) := hz
    unfold d_X10_levelsOf_l25b at hz
    have jt : (Int32.ofNat j_w).toInt = j_w := mk_i (by omega)
    rw [j2_w, h0, wt, jt] at hz
    by_cases c1_w : (W_w : Int) ≤ j_w
    · rw [if_pos c1_w] at hz
      have je : j_w = W_w := by omega
      rw [je] at j4_w
      refine ⟨x6, j4_w, ?_⟩
      cases ho : d_X10_levelsOf_b82 82 (Int32.ofNat c) X_w (Int32.ofNat l) x6 m_w with
      | none => rw [ho] at hz; cases hz
      | some q_w =>
        rw [ho] at hz
        have hz := Sum.inr.inj (Option.some.inj hz)
        rw [← hz]
    · rw [if_neg c1_w] at hz
      split at hz
      · cases hz
      · split at hz
        · cases hz
        · split at hz
          · cases hz
          · cases hz
theorem lo_run {W_w c : Nat} {m_w : dc_M} {Y : Int64} (h0 : m_w.1 82 0 = Int32.ofNat W_w) (hW : W_w ≤ 6) (hc_w : c < 1000) (h_w : d_X10_levelsOf 82 (Int32.ofNat c) m_w = some Y) : lv_X W_w c (2 ^ W_w) Y := by
  have wt : (Int32.ofNat W_w).toInt = W_w := mk_i (by omega)
  have p2_w := lc_p2 hW
  have two_w : ((1 : Int32) <<< (m_w.1 82 0 &&& 31)).toInt = ((2 ^ W_w : Nat) : Int) := by
    rw [h0]
    have e_w : (1 : Int32) <<< (Int32.ofNat W_w &&& 31) = Int32.ofNat (2 ^ W_w) := lc_two hW
    rw [e_w]
    exact mk_i (by omega)
  unfold d_X10_levelsOf d_X10_levelsOf_l5 at h_w
  have step_w : ∀ (l : Nat) (X_w : Int64) (u_w : (Int64 × Int32) ⊕ Int64), l < 2 ^ W_w → lv_X W_w c l X_w → d_X10_levelsOf_l5b 82 (Int32.ofNat c) X_w (Int32.ofNat l) m_w = some u_w → ∃ X', u_w = .inl (X', Int32.ofNat l + 1) ∧ lv_X W_w c (l + 1) X' := fun l X_w u_w hl hX hz => by
    unfold d_X10_levelsOf_l5b at hz
    rw [two_w, mk_i (show l < 2147483648 by omega), if_neg (show ¬ ((2 ^ W_w : Nat) : Int) ≤ (l : Int) by omega)] at hz
    obtain ⟨F_w, f1_w, f2_w⟩ := l25_w h0 hW hc_w (by omega) hz
    unfold d_X10_levelsOf_b82 at f2_w
    rcases f1_w with ⟨r1_w, r2⟩ | ⟨r1_w, r2⟩
    · rw [r1_w, if_neg (show ¬ (1 : Int32).toInt = 0 by decide)] at f2_w
      refine ⟨_, (Option.some.inj f2_w).symm, fun i hi_w => ?_⟩
      rw [mk_or, lc_shl (show l < 64 by omega) hi_w, Bool.or_eq_true, hX i hi_w, decide_eq_true_iff]
      constructor
      · rintro (q_w | q_w)
        · exact ⟨by omega, q_w.2⟩
        · rw [q_w]
          exact ⟨by omega, r2⟩
      · rintro ⟨q1, q2⟩
        by_cases e_w : i = l
        · exact Or.inr e_w
        · exact Or.inl ⟨by omega, q2⟩
    · rw [r1_w, if_pos (show (0 : Int32).toInt = 0 from rfl)] at f2_w
      refine ⟨_, (Option.some.inj f2_w).symm, fun i hi_w => ?_⟩
      rw [mk_or, mk_zero, Bool.or_false, hX i hi_w]
      constructor
      · rintro ⟨q1, q2⟩
        exact ⟨by omega, q2⟩
      · rintro ⟨q1, q2⟩
        refine ⟨?_, q2⟩
        by_cases e_w : i = l
        · rw [e_w] at q2
          exact absurd q2 r2
        · omega
  refine dc_lp_inv (s := ((0 : Int64), (0 : Int32))) (fun z_w : Int64 × Int32 => ∃ l : Nat, l ≤ 2 ^ W_w ∧ z_w.2 = Int32.ofNat l ∧ lv_X W_w c l z_w.1) (fun Y : Int64 => lv_X W_w c (2 ^ W_w) Y) (fun z_w z' hI hz => ?_) (fun z_w Y hI hz => ?_) ⟨0, Nat.zero_le _, rfl, fun i hi_w => by show mk_bt 0 i = true ↔ _; rw [mk_zero]; exact ⟨fun q_w => absurd q_w (by decide), fun q_w => absurd q_w.1 (Nat.not_lt_zero i)⟩⟩ h_w
  · obtain ⟨l, l1, l2, l3⟩ := hI
    obtain ⟨X_w, x4_w⟩ := z_w
    have l2 : x4_w = Int32.ofNat l := l2
    have l3 : lv_X W_w c l X_w := l3
    have hz : d_X10_levelsOf_l5b 82 (Int32.ofNat c) X_w x4_w m_w = some (.inl z') := hz
    rw [l2] at hz
    by_cases c1_w : l < 2 ^ W_w
    · obtain ⟨X', r1_w, r2⟩ := step_w l X_w _ c1_w l3 hz
      have r1_w := Sum.inl.inj r1_w
      rw [r1_w]
      exact ⟨l + 1, by omega, on_1 (by omega), r2⟩
    · unfold d_X10_levelsOf_l5b at hz
      rw [two_w, mk_i (show l < 2147483648 by omega), if_pos (show ((2 ^ W_w : Nat) : Int) ≤ (l : Int) by omega)] at hz
      cases hz
  · obtain ⟨l, l1, l2, l3⟩ := hI
    obtain ⟨X_w, x4_w⟩ := z_w
    have l2 : x4_w = Int32.ofNat l := l2
    have l3 : lv_X W_w c l X_w := l3
    have hz : d_X10_levelsOf_l5b 82 (Int32.ofNat c) X_w x4_w m_w = some (.inr Y) := hz
    rw [l2] at hz
    by_cases c1_w : l < 2 ^ W_w
    · obtain ⟨X', r1_w, -⟩ := step_w l X_w _ c1_w l3 hz
      cases r1_w
    · unfold d_X10_levelsOf_l5b at hz
      rw [two_w, mk_i (show l < 2147483648 by omega), if_pos (show ((2 ^ W_w : Nat) : Int) ≤ (l : Int) by omega)] at hz
      have hz := Sum.inr.inj (Option.some.inj hz)
      rw [← hz]
      have le_w : l = 2 ^ W_w := by omega
      rw [le_w] at l3
      exact l3
theorem ca_w {W_w : Nat} {m_w : dc_M} {q_w : Int32} (h0 : m_w.1 82 0 = Int32.ofNat W_w) (hW : W_w ≤ 6) (h_w : d_X10_cubeAll 82 m_w = some q_w) : q_w.toInt = ((3 ^ W_w : Nat) : Int) := by
  have wt : (Int32.ofNat W_w).toInt = W_w := mk_i (by omega)
  unfold d_X10_cubeAll d_X10_cubeAll_l4 at h_w
  refine dc_lp_inv (s := ((1 : Int32), (0 : Int32))) (fun z_w : Int32 × Int32 => ∃ j_w : Nat, j_w ≤ W_w ∧ z_w.2 = Int32.ofNat j_w ∧ z_w.1.toInt = ((3 ^ j_w : Nat) : Int)) (fun q_w : Int32 => q_w.toInt = ((3 ^ W_w : Nat) : Int)) (fun z_w z' hI hz => ?_) (fun z_w q_w hI hz => ?_) ⟨0, Nat.zero_le _, rfl, rfl⟩ h_w
  · obtain ⟨j_w, j1, j2_w, j3_w⟩ := hI
    obtain ⟨x1_w, x2_w⟩ := z_w
    have j2_w : x2_w = Int32.ofNat j_w := j2_w
    have j3_w : x1_w.toInt = ((3 ^ j_w : Nat) : Int) := j3_w
    have hz : d_X10_cubeAll_l4b 82 x1_w x2_w m_w = some (.inl z') := hz
    unfold d_X10_cubeAll_l4b at hz
    have jt : (Int32.ofNat j_w).toInt = j_w := mk_i (by omega)
    rw [j2_w, h0, wt, jt] at hz
    by_cases c1_w : (W_w : Int) ≤ j_w
    · rw [if_pos c1_w] at hz; cases hz
    · rw [if_neg c1_w] at hz
      have hz := Sum.inl.inj (Option.some.inj hz)
      rw [← hz]
      have pj := lc_p3 (show j_w ≤ 6 by omega)
      refine ⟨j_w + 1, by omega, on_1 (by omega), ?_⟩
      show (x1_w * 3).toInt = _
      rw [Int32.toInt_mul, j3_w, show (3 : Int32).toInt = 3 from rfl, show (3 : Nat) ^ (j_w + 1) = 3 ^ j_w * 3 from Nat.pow_succ 3 j_w]
      generalize 3 ^ j_w = p at pj ⊢
      rw [sx_bm (by omega) (by omega)]
      omega
  · obtain ⟨j_w, j1, j2_w, j3_w⟩ := hI
    obtain ⟨x1_w, x2_w⟩ := z_w
    have j2_w : x2_w = Int32.ofNat j_w := j2_w
    have j3_w : x1_w.toInt = ((3 ^ j_w : Nat) : Int) := j3_w
    have hz : d_X10_cubeAll_l4b 82 x1_w x2_w m_w = some (.inr q_w) := hz
    unfold d_X10_cubeAll_l4b at hz
    have jt : (Int32.ofNat j_w).toInt = j_w := mk_i (by omega)
    rw [j2_w, h0, wt, jt] at hz
    by_cases c1_w : (W_w : Int) ≤ j_w
    · rw [if_pos c1_w] at hz
      have hz := Sum.inr.inj (Option.some.inj hz)
      rw [← hz]
      have je : j_w = W_w := by omega
      rw [je] at j3_w
      exact j3_w
    · rw [if_neg c1_w] at hz; cases hz
