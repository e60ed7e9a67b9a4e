/-! ===== cost: quarrels and aims that are unlike ===== -/
theorem exb_w (f_w : Nat → Bool) : ∃ x : Int32, ∀ j_w, j_w < 32 → b32 x j_w = f_w j_w := by
  have st_w : ∀ k_w, k_w ≤ 32 → ∃ x : Int32, ∀ j_w, j_w < 32 → b32 x j_w = (decide (j_w < k_w) && f_w j_w) := fun k_w => by
    induction k_w with
    | zero => intro _; exact ⟨0, fun j_w _ => by rw [b32_0, decide_eq_false (Nat.not_lt_zero j_w), Bool.false_and]⟩
    | succ k_w ih =>
      intro hk
      obtain ⟨x, hx⟩ := ih (by omega)
      by_cases c_w : f_w k_w = true
      · refine ⟨x ||| ((1 : Int32) <<< (Int32.ofNat k_w &&& 31)), fun j_w hj => ?_⟩
        rw [b32_or, hx j_w hj, b32_1 ⟨by rw [mk_i (by omega)]; omega, by rw [mk_i (by omega)]; omega⟩ hj, on_n (by omega)]
        by_cases e_w : j_w = k_w
        · rw [e_w, decide_eq_true rfl, Bool.or_true, decide_eq_true (Nat.lt_succ_self k_w), c_w]; rfl
        · rw [decide_eq_false e_w, Bool.or_false]
          by_cases l : j_w < k_w
          · rw [decide_eq_true l, decide_eq_true (show j_w < k_w + 1 by omega)]
          · rw [decide_eq_false l, decide_eq_false (show ¬ j_w < k_w + 1 by omega)]
      · refine ⟨x, fun j_w hj => ?_⟩
        rw [hx j_w hj]
        by_cases e_w : j_w = k_w
        · rw [e_w, eq_false_of_ne_true c_w, Bool.and_false, Bool.and_false]
        · by_cases l : j_w < k_w
          · rw [decide_eq_true l, decide_eq_true (show j_w < k_w + 1 by omega)]
          · rw [decide_eq_false l, decide_eq_false (show ¬ j_w < k_w + 1 by omega)]
  obtain ⟨x, hx⟩ := st_w 32 (Nat.le_refl _)
  exact ⟨x, fun j_w hj => by rw [hx j_w hj, decide_eq_true hj, Bool.true_and]⟩
theorem ow_w {Wn : Nat} {M_w : dc_M} {q_w : Int32} (hW : (M_w.1 82 0).toInt = Wn) (w6_w : Wn ≤ 6) (h_w : d_X10_ownWires 82 M_w = some q_w) : ∀ j_w, j_w < 32 → b32 q_w j_w = (decide (j_w < Wn) && decide (0 < (M_w.1 84 j_w).toInt)) := by
  unfold d_X10_ownWires d_X10_ownWires_l4 at h_w
  refine dc_lp_inv (s := ((0 : Int32), (0 : Int32))) (fun s : Int32 × Int32 => ∃ i_w : Nat, i_w ≤ Wn ∧ s.2 = Int32.ofNat i_w ∧ ∀ j_w, j_w < 32 → b32 s.1 j_w = (decide (j_w < i_w) && decide (0 < (M_w.1 84 j_w).toInt))) (fun q_w : Int32 => ∀ j_w, j_w < 32 → b32 q_w j_w = (decide (j_w < Wn) && decide (0 < (M_w.1 84 j_w).toInt))) (fun s s' hI hs => ?_) (fun s u_w hI hs => ?_) ⟨0, Nat.zero_le _, rfl, fun j_w hj => by rw [b32_0, decide_eq_false (Nat.not_lt_zero j_w), Bool.false_and]⟩ h_w
  · obtain ⟨i_w, i1_w, i2_w, i3_w⟩ := hI
    obtain ⟨x, y_w⟩ := s
    have i2_w : y_w = Int32.ofNat i_w := i2_w
    have i3_w : ∀ j_w, j_w < 32 → b32 x j_w = (decide (j_w < i_w) && decide (0 < (M_w.1 84 j_w).toInt)) := i3_w
    have hs : d_X10_ownWires_l4b 82 x y_w M_w = some (.inl s') := hs
    unfold d_X10_ownWires_l4b at hs
    rw [i2_w, hW, mk_i (by omega), on_n (show i_w < 1000 by omega), show 82 + 2 = 84 from rfl, on_1 (show i_w < 1000 by omega)] at hs
    by_cases c_w : (Wn : Int) ≤ i_w
    · rw [if_pos c_w] at hs; cases hs
    · rw [if_neg c_w] at hs
      by_cases c2_w : (M_w.1 84 i_w).toInt ≤ 0
      · rw [if_pos c2_w] at hs
        have hs := Sum.inl.inj (Option.some.inj hs)
        rw [← hs]
        refine ⟨i_w + 1, by omega, rfl, fun j_w hj => ?_⟩
        rw [b32_or, b32_0, Bool.or_false, i3_w j_w hj]
        by_cases e_w : j_w = i_w
        · rw [e_w, decide_eq_false (show ¬ 0 < (M_w.1 84 i_w).toInt by omega), Bool.and_false, Bool.and_false]
        · by_cases l : j_w < i_w
          · rw [decide_eq_true l, decide_eq_true (show j_w < i_w + 1 by omega)]
          · rw [decide_eq_false l, decide_eq_false (show ¬ j_w < i_w + 1 by omega)]
      · rw [if_neg c2_w] at hs
        have hs := Sum.inl.inj (Option.some.inj hs)
        rw [← hs]
        refine ⟨i_w + 1, by omega, rfl, fun j_w hj => ?_⟩
        rw [b32_or, b32_1 ⟨by rw [mk_i (by omega)]; omega, by rw [mk_i (by omega)]; omega⟩ hj, on_n (by omega), i3_w j_w hj]
        by_cases e_w : j_w = i_w
        · rw [e_w, decide_eq_true (show 0 < (M_w.1 84 i_w).toInt by omega), decide_eq_true rfl, decide_eq_true (Nat.lt_succ_self i_w), Bool.or_true]; rfl
        · rw [decide_eq_false e_w, Bool.or_false]
          by_cases l : j_w < i_w
          · rw [decide_eq_true l, decide_eq_true (show j_w < i_w + 1 by omega)]
          · rw [decide_eq_false l, decide_eq_false (show ¬ j_w < i_w + 1 by omega)]
  · obtain ⟨i_w, i1_w, i2_w, i3_w⟩ := hI
    obtain ⟨x, y_w⟩ := s
    have i2_w : y_w = Int32.ofNat i_w := i2_w
    have i3_w : ∀ j_w, j_w < 32 → b32 x j_w = (decide (j_w < i_w) && decide (0 < (M_w.1 84 j_w).toInt)) := i3_w
    have hs : d_X10_ownWires_l4b 82 x y_w M_w = some (.inr u_w) := hs
    unfold d_X10_ownWires_l4b at hs
    rw [i2_w, hW, mk_i (by omega)] at hs
    by_cases c_w : (Wn : Int) ≤ i_w
    · rw [if_pos c_w] at hs
      have hs : x = u_w := Sum.inr.inj (Option.some.inj hs)
      rw [← hs, ← show i_w = Wn by omega]
      exact i3_w
    · rw [if_neg c_w] at hs
      split at hs <;> cases hs
theorem i0_w {x : Int32} : x.toInt = 0 ↔ ∀ j_w, j_w < 32 → b32 x j_w = false := by
  constructor
  · intro h_w j_w _
    rw [show x = 0 from Int32.toInt_inj.mp h_w, b32_0]
  · intro h_w
    rw [show x = 0 from b32_ext (fun k_w hk => by rw [h_w k_w hk, b32_0])]
    rfl
theorem quv_w {lv : Nat → Nat} {E : Nat → Int32} {made : Int32} {t_w u_w : Nat} : quv lv E made t_w u_w = true ↔ lv t_w = lv u_w ∧ ∃ j_w, j_w < 32 ∧ b32 made j_w = true ∧ b32 (E t_w) j_w ≠ b32 (E u_w) j_w := by
  unfold quv
  rw [Bool.and_eq_true, decide_eq_true_eq, decide_eq_true_eq]
  refine and_congr Iff.rfl ?_
  constructor
  · intro h_w
    refine Classical.byContradiction (fun q_w => h_w (i0_w.mpr (fun j_w hj => ?_)))
    rw [b32_and, b32_xor]
    cases a_w : b32 made j_w with
    | false => rw [Bool.and_false]
    | true =>
      rw [Bool.and_true, Classical.byContradiction (fun w => q_w ⟨j_w, hj, a_w, w⟩)]
      exact Bool.xor_self _
  · rintro ⟨j_w, hj, h1, h2⟩ q_w
    have := i0_w.mp q_w j_w hj
    rw [b32_and, b32_xor, h1, Bool.and_true] at this
    revert this h2
    cases b32 (E t_w) j_w <;> cases b32 (E u_w) j_w <;> decide
/-- a_w level whose bits lie below W_w -/
theorem lvb_w {L_w : Nat → Int32} {t_w W_w : Nat} (hW : W_w ≤ 6) (h_w : ∀ j_w, W_w ≤ j_w → j_w < 32 → b32 (L_w t_w) j_w = false) : L_w t_w = Int32.ofNat (lvw L_w t_w) ∧ lvw L_w t_w < 2 ^ W_w := by
  have a_w := a63 (x := L_w t_w)
  have e_w : L_w t_w &&& 63 = L_w t_w := a63_id (fun j_w h1 h2 => h_w j_w (by omega) h2)
  have n_w : lvw L_w t_w = (L_w t_w &&& 63).toNatClampNeg := rfl
  have c_w := cl_n a_w.1
  have l64_w := @lvw_lt L_w t_w
  refine ⟨Int32.toInt_inj.mp ?_, ?_⟩
  · rw [mk_i (by omega), n_w]
    rw [e_w] at a_w c_w ⊢
    omega
  · have tn_w : lvw L_w t_w = (L_w t_w &&& 63).toBitVec.toNat := by
      rw [n_w]
      have t2_w : (L_w t_w &&& 63).toInt = (L_w t_w &&& 63).toBitVec.toInt := rfl
      have lt_w : (L_w t_w &&& 63).toBitVec.toNat < 2 ^ 32 := (L_w t_w &&& 63).toBitVec.isLt
      by_cases z_w : 2 * (L_w t_w &&& 63).toBitVec.toNat < 2 ^ 32
      · rw [BitVec.toInt_eq_toNat_of_lt z_w] at t2_w
        omega
      · rw [BitVec.toInt_eq_toNat_cond, if_neg z_w] at t2_w
        omega
    rw [tn_w]
    refine Nat.lt_pow_two_of_testBit _ (fun i_w hi_w => ?_)
    show (L_w t_w &&& 63).toBitVec.toNat.testBit i_w = false
    rw [e_w]
    by_cases z_w : i_w < 32
    · exact h_w i_w hi_w z_w
    · exact BitVec.getLsbD_of_ge _ _ (by omega)
theorem orw_w {L_w A : Nat → Int32} {w n_w : Nat} {v : Bool} (h_w : ∀ t_w, t_w < n_w → L_w t_w = Int32.ofNat (lvw L_w t_w)) : ∀ l, l < 64 → (mk_bt (ORw L_w A w v n_w) l = true ↔ ∃ t_w, t_w < n_w ∧ b32 (A t_w) w = v ∧ lvw L_w t_w = l) := by
  induction n_w with
  | zero => intro l _; exact ⟨fun q_w => by (have q_w : mk_bt 0 l = true := q_w; rw [mk_zero] at q_w; cases q_w), fun ⟨t_w, h_w, _⟩ => absurd h_w (Nat.not_lt_zero t_w)⟩
  | succ n_w ih =>
    intro l hl
    have i_w := ih (fun t_w ht => h_w t_w (by omega)) l hl
    rw [ORw.sw]
    by_cases c_w : b32 (A n_w) w = v
    · rw [if_pos c_w, mk_or, Bool.or_eq_true, i_w, h_w n_w (Nat.lt_succ_self n_w), lc_shl lvw_lt hl, decide_eq_true_eq]
      constructor
      · rintro (⟨t_w, t1_w, t2_w⟩ | q_w)
        · exact ⟨t_w, by omega, t2_w⟩
        · exact ⟨n_w, Nat.lt_succ_self n_w, c_w, q_w.symm⟩
      · rintro ⟨t_w, t1_w, t2_w, t3_w⟩
        by_cases e_w : t_w = n_w
        · right; rw [e_w] at t3_w; exact t3_w.symm
        · exact Or.inl ⟨t_w, by omega, t2_w, t3_w⟩
    · rw [if_neg c_w, i_w]
      constructor
      · rintro ⟨t_w, t1_w, t2_w⟩
        exact ⟨t_w, by omega, t2_w⟩
      · rintro ⟨t_w, t1_w, t2_w, t3_w⟩
        by_cases e_w : t_w = n_w
        · rw [e_w] at t2_w; exact absurd t2_w c_w
        · exact ⟨t_w, by omega, t2_w, t3_w⟩
/-- two states look alike and want a_w wire unlike -/
def QUw (L_w E : Nat → Int32) (n_w w : Nat) : Prop := ∃ t_w u_w, t_w < n_w ∧ u_w < n_w ∧ lvw L_w t_w = lvw L_w u_w ∧ b32 (L_w t_w ^^^ E t_w) w = true ∧ b32 (L_w u_w ^^^ E u_w) w = false
/-- what the class gathered -/
theorem msa_w {a_w Wn n_w : Nat} {z_w : dc_M} (K_w : MSm z_w) (k13 : z_w.1 1 13 ≠ 0) (a7 : z_w.2.2.1 1 7 = a_w) (hW : (z_w.1 a_w 0).toInt = Wn) (w6_w : Wn ≤ 6) (hn : n_w ≤ 200) (h0 : (z_w.1 4 0).toInt = n_w) (hL : ∀ t_w, t_w < n_w → ∀ j_w, Wn ≤ j_w → j_w < 32 → b32 (z_w.1 7 t_w) j_w = false) : z_w.1 15 6 = Int32.ofNat Wn ∧ (z_w.1 15 7).toInt = ((3 ^ Wn : Nat) : Int) ∧ ∀ w, w < Wn → (z_w.2.1 16 w &&& z_w.2.1 17 w = 0 ↔ ¬ QUw (z_w.1 7) (z_w.1 8) n_w w) ∧ ∀ l, mk_bt (z_w.2.1 16 w) l = true → l < 2 ^ Wn := by
  obtain ⟨-, c0_w, c1_w, k2_w, k4_w, k5_w, k6_w, k7_w⟩ := K_w k13
  rw [a7] at k4_w
  obtain ⟨g1, g2, g3_w⟩ := ga_run hn (by rw [k2_w 4 0 (by decide) (by decide) (by omega)]; exact h0) hW w6_w k4_w
  have e7_w : c0_w.1 7 = z_w.1 7 := funext (fun k_w => k2_w 7 k_w (by decide) (by decide) (by omega))
  have e8 : c0_w.1 8 = z_w.1 8 := funext (fun k_w => k2_w 8 k_w (by decide) (by decide) (by omega))
  rw [e7_w, e8] at g1
  have lv := fun t_w (ht : t_w < n_w) => lvb_w w6_w (hL t_w ht)
  refine ⟨?_, by rw [← k7_w]; exact g3_w, fun w hw => ?_⟩
  · rw [← k6_w, g2]
    refine Int32.toInt_inj.mp ?_
    rw [hW, mk_i (by omega)]
  · obtain ⟨o1, o2⟩ := g1 w hw
    rw [(k5_w w).1] at o1
    rw [(k5_w w).2] at o2
    have b1 := orw_w (A := fun t_w => z_w.1 7 t_w ^^^ z_w.1 8 t_w) (w := w) (v := true) (fun t_w ht => (lv t_w ht).1)
    have b2 := orw_w (A := fun t_w => z_w.1 7 t_w ^^^ z_w.1 8 t_w) (w := w) (v := false) (fun t_w ht => (lv t_w ht).1)
    rw [← o1] at b1
    rw [← o2] at b2
    refine ⟨?_, fun l hl => ?_⟩
    · rw [mk_eq0]
      constructor
      · rintro q_w ⟨t_w, u_w, t1_w, u1_w, e_w, t2_w, u2_w⟩
        have := q_w (lvw (z_w.1 7) t_w) lvw_lt
        rw [mk_and, (b1 _ lvw_lt).mpr ⟨t_w, t1_w, t2_w, rfl⟩, (b2 _ lvw_lt).mpr ⟨u_w, u1_w, u2_w, e_w.symm⟩] at this
        cases this
      · intro q_w l l64_w
        refine eq_false_of_ne_true (fun r_w => q_w ?_)
        rw [mk_and, Bool.and_eq_true, b1 l l64_w, b2 l l64_w] at r_w
        obtain ⟨⟨t_w, t1_w, t2_w, t3_w⟩, u_w, u1_w, u2_w, u3⟩ := r_w
        exact ⟨t_w, u_w, t1_w, u1_w, by rw [t3_w, u3], t2_w, u2_w⟩
    · obtain ⟨t_w, t1_w, t2_w, t3_w⟩ := (b1 l (bl64_w hl)).mp hl
      rw [← t3_w]
      exact (lv t_w t1_w).2
/-- the reference's quarrels -/
theorem lqo_w {a_w n_w Wn : Nat} {z_w m e_w : dc_M} (N_w : NR a_w z_w m) (hn : n_w ≤ 200) (h32 : (m.1 82 32).toInt = n_w) (hW : (z_w.1 a_w 0).toInt = Wn) (RR : RW (z_w.1 a_w 1).toInt (z_w.1 (a_w + 3)) (m.1 100) (z_w.1 6) (z_w.1 8) (z_w.1 4 2) n_w) (hlv : ∀ t_w, t_w < n_w → m.1 101 t_w = z_w.1 7 t_w) (hL : ∀ t_w, t_w < n_w → ∀ j_w, Wn ≤ j_w → j_w < 32 → b32 (z_w.1 7 t_w) j_w = false) (h_w : d_X10_layQuarrels 82 m = some e_w) : krq m e_w ∧ (((e_w.1 82 40).toInt = 0 ∧ ∀ w, w < Wn → 0 < (z_w.1 (a_w + 2) w).toInt → ¬ QUw (z_w.1 7) (z_w.1 8) n_w w) ∨ (0 < (e_w.1 82 40).toInt ∧ ∃ w, w < Wn ∧ 0 < (z_w.1 (a_w + 2) w).toInt ∧ QUw (z_w.1 7) (z_w.1 8) n_w w)) := by
  have N' := N_w
  obtain ⟨⟨w0_w, ⟨w1_w, w1'⟩, w2_w⟩, -, -, -, -, kd⟩ := N_w
  have w6_w : Wn ≤ 6 := by omega
  obtain ⟨made, hm_w⟩ := exb_w (fun j_w => decide (j_w < Wn) && decide (0 < (m.1 84 j_w).toInt))
  have lv := fun t_w (ht : t_w < n_w) => lvb_w w6_w (hL t_w ht)
  have le_w : ∀ t_w u_w, t_w < n_w → u_w < n_w → (lvw (z_w.1 7) t_w = lvw (z_w.1 7) u_w ↔ z_w.1 7 t_w = z_w.1 7 u_w) := fun t_w u_w ht hu => ⟨fun q_w => by rw [(lv t_w ht).1, (lv u_w hu).1, q_w], fun q_w => by show ((z_w.1 7 t_w) &&& 63).toNatClampNeg = ((z_w.1 7 u_w) &&& 63).toNatClampNeg; rw [q_w]⟩
  unfold d_X10_layQuarrels at h_w
  have m0 : ∀ b_w j_w, ¬ (b_w = 82 ∧ 39 ≤ j_w ∧ j_w ≤ 42) → (dc_wi (dc_wi (dc_wi (dc_wi m 82 39 0) 82 40 0) 82 41 (-4)) 82 42 (-4)).1 b_w j_w = m.1 b_w j_w := fun b_w j_w hb_w => by rw [wi_k (by omega), wi_k (by omega), wi_k (by omega), wi_k (by omega)]
  have v39 : (dc_wi (dc_wi (dc_wi (dc_wi m 82 39 0) 82 40 0) 82 41 (-4)) 82 42 (-4)).1 82 39 = 0 := by rw [wi_k (by omega), wi_k (by omega), wi_k (by omega)]; exact wi_s
  have v40 : (dc_wi (dc_wi (dc_wi (dc_wi m 82 39 0) 82 40 0) 82 41 (-4)) 82 42 (-4)).1 82 40 = 0 := by rw [wi_k (by omega), wi_k (by omega)]; exact wi_s
  have v41 : (dc_wi (dc_wi (dc_wi (dc_wi m 82 39 0) 82 40 0) 82 41 (-4)) 82 42 (-4)).1 82 41 = -4 := by rw [wi_k (by omega)]; exact wi_s
  have v42 : (dc_wi (dc_wi (dc_wi (dc_wi m 82 39 0) 82 40 0) 82 41 (-4)) 82 42 (-4)).1 82 42 = -4 := wi_s
  have vz : (dc_wi (dc_wi (dc_wi (dc_wi m 82 39 0) 82 40 0) 82 41 (-4)) 82 42 (-4)).2 = m.2 := rfl
  generalize dc_wi (dc_wi (dc_wi (dc_wi m 82 39 0) 82 40 0) 82 41 (-4)) 82 42 (-4) = m1 at *
  obtain ⟨⟨-, -, R_w⟩, KR_w⟩ := q24_run (lv := lvw (z_w.1 7)) (E := fun t_w => z_w.1 8 t_w) (made := made) (m0 := m) (m := m1) hn h32 (fun t_w u_w ht hu => by rw [hlv t_w ht, hlv u_w hu]; exact (le_w t_w u_w ht hu).symm) (fun t_w M_w q_w ht KM_w hq => exq_w N' hn ht RR (KM_w.1 82 3 (by omega)) (fun j_w => KM_w.1 100 j_w (by omega)) (fun j_w => KM_w.1 85 j_w (by omega)) hq) (fun M_w q_w KM_w hq => b32_ext (fun j_w hj => by
    rw [hm_w j_w hj, ow_w (by rw [KM_w.1 82 0 (by omega), ← w0_w]; exact hW) w6_w hq j_w hj, KM_w.1 84 j_w (by omega)])) ⟨by rw [v39]; rfl, by rw [v40]; rfl, by rw [v40, v41, v42]; exact Or.inl ⟨rfl, rfl, rfl, fun t_w v hx => by omega⟩⟩ ⟨fun b_w j_w hb_w => m0 b_w j_w hb_w, vz⟩ h_w
  have ax : ∀ t_w u_w w, t_w < n_w → u_w < n_w → lvw (z_w.1 7) t_w = lvw (z_w.1 7) u_w → (b32 (z_w.1 7 t_w ^^^ z_w.1 8 t_w) w ≠ b32 (z_w.1 7 u_w ^^^ z_w.1 8 u_w) w ↔ b32 (z_w.1 8 t_w) w ≠ b32 (z_w.1 8 u_w) w) := fun t_w u_w w ht hu e_w => by
    rw [(le_w t_w u_w ht hu).mp e_w, b32_xor, b32_xor]
    cases b32 (z_w.1 7 u_w) w <;> cases b32 (z_w.1 8 t_w) w <;> cases b32 (z_w.1 8 u_w) w <;> decide
  have kk : ∀ w, w < Wn → m.1 84 w = z_w.1 (a_w + 2) w := fun w hw => ((w2_w w (by omega)).2).symm
  refine ⟨KR_w, ?_⟩
  rcases R_w with ⟨r1_w, -, -, r2⟩ | ⟨r1_w, t_w, u_w, -, -, -, ⟨x1_w, x2_w, -⟩, x3, -⟩
  · refine Or.inl ⟨r1_w, fun w hw hk ⟨t_w, u_w, t1_w, u1_w, e_w, t2_w, u2_w⟩ => ?_⟩
    have mw : b32 made w = true := by rw [hm_w w (by omega), decide_eq_true hw, kk w hw, decide_eq_true hk]; rfl
    have ne_w := (ax t_w u_w w t1_w u1_w e_w).mp (by rw [t2_w, u2_w]; decide)
    rcases Nat.lt_trichotomy t_w u_w with c_w | c_w | c_w
    · have q_w := r2 t_w u_w ⟨c_w, u1_w, by omega⟩
      rw [quv_w.mpr ⟨e_w, w, by omega, mw, ne_w⟩] at q_w
      cases q_w
    · rw [c_w] at ne_w; exact ne_w rfl
    · have q_w := r2 u_w t_w ⟨c_w, t1_w, by omega⟩
      rw [quv_w.mpr ⟨e_w.symm, w, by omega, mw, fun y_w => ne_w y_w.symm⟩] at q_w
      cases q_w
  · refine Or.inr ⟨r1_w, ?_⟩
    obtain ⟨e_w, w, hw, mw, ne_w⟩ := quv_w.mp x3
    rw [hm_w w hw, Bool.and_eq_true, decide_eq_true_eq, decide_eq_true_eq] at mw
    refine ⟨w, mw.1, by rw [← kk w mw.1]; exact mw.2, ?_⟩
    have t1_w : t_w < n_w := by omega
    have na := (ax t_w u_w w t1_w x2_w e_w).mpr ne_w
    cases a1_w : b32 (z_w.1 7 t_w ^^^ z_w.1 8 t_w) w with
    | true =>
      refine ⟨t_w, u_w, t1_w, x2_w, e_w, a1_w, ?_⟩
      cases a2 : b32 (z_w.1 7 u_w ^^^ z_w.1 8 u_w) w with
      | true => rw [a1_w, a2] at na; exact absurd rfl na
      | false => rfl
    | false =>
      refine ⟨u_w, t_w, x2_w, t1_w, e_w.symm, ?_, a1_w⟩
      cases a2 : b32 (z_w.1 7 u_w ^^^ z_w.1 8 u_w) w with
      | true => rfl
      | false => rw [a1_w, a2] at na; exact absurd rfl na
