/-! ===== the net with a_w wire more ===== -/
/-- what it leaves -/
theorem ho_sim {a_w : Nat} {x_w y_w : Int32} {c_w e_w : dc_M} (ha_w : a_w = 41 ∨ a_w = 52) (e16_w : (c_w.1 a_w 1).toInt ≤ 16) (hx : 0 ≤ x_w.toInt ∧ x_w.toInt < (c_w.1 a_w 1).toInt) (hy : 0 ≤ y_w.toInt ∧ y_w.toInt < (c_w.1 a_w 1).toInt) (hxy : x_w.toInt ≠ y_w.toInt) (p0_w : 0 ≤ (c_w.1 a_w 2).toInt) (p20 : (c_w.1 a_w 2).toInt < 20) (B_w : CB (cn a_w c_w)) (z7 : c_w.1 (a_w + 7) y_w.toNatClampNeg = 0) (h_w : d_X3_handOver a_w x_w y_w c_w = some e_w) : CB (cn a_w e_w) ∧ e_w.2 = c_w.2 ∧ e_w.1 a_w 2 = c_w.1 a_w 2 + 1 ∧ (∀ k_w, k_w ≠ 2 → e_w.1 a_w k_w = c_w.1 a_w k_w) ∧ (∀ b_w k_w : Nat, b_w ≠ a_w → b_w ≠ a_w + 6 → b_w ≠ a_w + 7 → b_w ≠ a_w + 9 → b_w ≠ a_w + 10 → e_w.1 b_w k_w = c_w.1 b_w k_w) ∧ (∀ k_w : Nat, (k_w : Int) < (c_w.1 a_w 1).toInt → e_w.1 (a_w + 6) k_w = if k_w = y_w.toNatClampNeg then c_w.1 (a_w + 6) k_w ||| ((1 : Int32) <<< (c_w.1 a_w 2 &&& 31)) else c_w.1 (a_w + 6) k_w) ∧ ∀ k_w : Nat, (k_w : Int) < (c_w.1 a_w 1).toInt → e_w.1 (a_w + 7) k_w = if k_w = y_w.toNatClampNeg then c_w.1 (a_w + 7) x_w.toNatClampNeg else if k_w = x_w.toNatClampNeg then (1 : Int32) <<< (c_w.1 a_w 2 &&& 31) else c_w.1 (a_w + 7) k_w := by
  have nx := cl_n hx.1
  have ny := cl_n hy.1
  have hx32 : 0 ≤ x_w.toInt ∧ x_w.toInt < 32 := ⟨hx.1, by omega⟩
  have hy32 : 0 ≤ y_w.toInt ∧ y_w.toInt < 32 := ⟨hy.1, by omega⟩
  obtain ⟨c1_w, q2_w, q1_w, hb_w⟩ := ho_loop hx32 p0_w (by omega) h_w
  rw [hoM_eq] at hb_w
  cases hp : d_X3_addPlace a_w ((1 : Int32) <<< (x_w &&& 31)) ((1 : Int32) <<< (y_w &&& 31)) 0 (hoM a_w c1_w x_w y_w) with
  | none => rw [hp] at hb_w; cases hb_w
  | some e' =>
    rw [hp] at hb_w
    have he : e' = e_w := Option.some.inj hb_w
    rw [← he]
    clear he
    have f1_w : c1_w.1 a_w 1 = c_w.1 a_w 1 := by rw [q1_w, if_neg (by omega)]
    have f2_w : c1_w.1 a_w 2 = c_w.1 a_w 2 := by rw [q1_w, if_neg (by omega)]
    have g1 : (hoM a_w c1_w x_w y_w).1 a_w 1 = c_w.1 a_w 1 := by
      unfold hoM
      rw [wi_k (by omega), wi_k (by omega), f1_w]
    have g2 : (hoM a_w c1_w x_w y_w).1 a_w 2 = c_w.1 a_w 2 := by
      unfold hoM
      rw [wi_k (by omega), wi_k (by omega), f2_w]
    have g7 : ∀ k_w, (hoM a_w c1_w x_w y_w).1 (a_w + 7) k_w = if k_w = x_w.toNatClampNeg then 0 else if k_w = y_w.toNatClampNeg then c_w.1 (a_w + 7) x_w.toNatClampNeg else c_w.1 (a_w + 7) k_w := fun k_w => by
      unfold hoM
      by_cases h1 : k_w = x_w.toNatClampNeg
      · rw [if_pos h1, h1]
        exact wi_s
      · rw [if_neg h1, wi_k (by omega)]
        by_cases h2 : k_w = y_w.toNatClampNeg
        · rw [if_pos h2, h2, wi_s, q1_w, if_neg (by omega)]
        · rw [if_neg h2, wi_k (by omega), q1_w, if_neg (by omega)]
    have gk : ∀ b_w k_w : Nat, b_w ≠ a_w + 7 → b_w ≠ a_w + 9 → (hoM a_w c1_w x_w y_w).1 b_w k_w = c_w.1 b_w k_w := fun b_w k_w h1 h2 => by
      unfold hoM
      rw [wi_k (by omega), wi_k (by omega), q1_w, if_neg (by omega)]
    have g9 : ∀ k_w : Nat, (hoM a_w c1_w x_w y_w).1 (a_w + 9) k_w = if (k_w : Int) < (c_w.1 a_w 2).toInt then mvB x_w y_w (c_w.1 (a_w + 9) k_w) else c_w.1 (a_w + 9) k_w := fun k_w => by
      unfold hoM
      rw [wi_k (by omega), wi_k (by omega), q1_w]
      by_cases h1 : (k_w : Int) < (c_w.1 a_w 2).toInt
      · rw [if_pos ⟨rfl, h1⟩, if_pos h1]
      · rw [if_neg (by omega), if_neg h1]
    have gz : (hoM a_w c1_w x_w y_w).2 = c_w.2 := q2_w
    generalize hoM a_w c1_w x_w y_w = M at *
    obtain ⟨r2, r_w⟩ := ap_run ha_w (by rw [g2]; exact p20) (by rw [g1]; omega) (by rw [g1]; exact e16_w) hp
    rw [g1, g2] at r_w
    have ax : ∀ b_w k_w : Nat, ¬ (b_w = a_w ∧ k_w = 13) → ¬ (b_w = a_w + 9 ∧ k_w = (c_w.1 a_w 2).toNatClampNeg) → ¬ (b_w = a_w + 10 ∧ k_w = (c_w.1 a_w 2).toNatClampNeg) → (apM a_w M ((1 : Int32) <<< (x_w &&& 31)) ((1 : Int32) <<< (y_w &&& 31)) 0).1 b_w k_w = M.1 b_w k_w := fun b_w k_w w1_w w2_w w3_w => by
      unfold apM
      rw [g2, wi_k w1_w, wi_k w3_w, wi_k w2_w]
    have a13 : (apM a_w M ((1 : Int32) <<< (x_w &&& 31)) ((1 : Int32) <<< (y_w &&& 31)) 0).1 a_w 13 = c_w.1 a_w 13 := by
      unfold apM
      rw [wi_s, g2, sl_0, or_0, gk a_w 13 (by omega) (by omega)]
    have a9 : (apM a_w M ((1 : Int32) <<< (x_w &&& 31)) ((1 : Int32) <<< (y_w &&& 31)) 0).1 (a_w + 9) (c_w.1 a_w 2).toNatClampNeg = (1 : Int32) <<< (x_w &&& 31) := by
      unfold apM
      rw [wi_k (by omega), wi_k (by omega), g2]
      exact wi_s
    have a10 : (apM a_w M ((1 : Int32) <<< (x_w &&& 31)) ((1 : Int32) <<< (y_w &&& 31)) 0).1 (a_w + 10) (c_w.1 a_w 2).toNatClampNeg = (1 : Int32) <<< (y_w &&& 31) := by
      unfold apM
      rw [wi_k (by omega), g2]
      exact wi_s
    generalize apM a_w M ((1 : Int32) <<< (x_w &&& 31)) ((1 : Int32) <<< (y_w &&& 31)) 0 = A at *
    have bz : ∀ {z_w : Int32} (_ : 0 ≤ z_w.toInt ∧ z_w.toInt < 32) (k_w : Nat), k_w < 32 → bi ((1 : Int32) <<< (z_w &&& 31)) k_w ((1 : Int32) <<< (c_w.1 a_w 2 &&& 31)) = if k_w = z_w.toNatClampNeg then (1 : Int32) <<< (c_w.1 a_w 2 &&& 31) else 0 := fun {z_w} hz k_w hk => by
      unfold bi
      rw [b32_1 hz hk]
      by_cases w_w : k_w = z_w.toNatClampNeg
      · rw [if_pos w_w, if_pos (decide_eq_true w_w)]
      · rw [if_neg w_w, if_neg (by rw [decide_eq_false w_w]; decide)]
    have ev2 : e'.1 a_w 2 = c_w.1 a_w 2 + 1 := by rw [r_w, if_pos ⟨rfl, rfl⟩]
    have eva : ∀ k_w, k_w ≠ 2 → e'.1 a_w k_w = c_w.1 a_w k_w := fun k_w hk => by
      rw [r_w, if_neg (by omega), if_neg (by omega), if_neg (by omega)]
      by_cases h13 : k_w = 13
      · rw [h13]; exact a13
      · rw [ax _ _ (by omega) (by omega) (by omega), gk _ _ (by omega) (by omega)]
    have ev6 : ∀ k_w : Nat, (k_w : Int) < (c_w.1 a_w 1).toInt → e'.1 (a_w + 6) k_w = if k_w = y_w.toNatClampNeg then c_w.1 (a_w + 6) k_w ||| ((1 : Int32) <<< (c_w.1 a_w 2 &&& 31)) else c_w.1 (a_w + 6) k_w := fun k_w hk => by
      rw [r_w, if_neg (by omega), if_neg (by omega), if_pos ⟨rfl, hk⟩, bz hy32 k_w (by omega), gk _ _ (by omega) (by omega)]
      by_cases w_w : k_w = y_w.toNatClampNeg
      · rw [if_pos w_w, if_pos w_w]
      · rw [if_neg w_w, if_neg w_w, or_0]
    have ev7 : ∀ k_w : Nat, (k_w : Int) < (c_w.1 a_w 1).toInt → e'.1 (a_w + 7) k_w = if k_w = y_w.toNatClampNeg then c_w.1 (a_w + 7) x_w.toNatClampNeg else if k_w = x_w.toNatClampNeg then (1 : Int32) <<< (c_w.1 a_w 2 &&& 31) else c_w.1 (a_w + 7) k_w := fun k_w hk => by
      rw [r_w, if_neg (by omega), if_pos ⟨rfl, hk⟩, bz hx32 k_w (by omega), g7]
      by_cases w1_w : k_w = x_w.toNatClampNeg
      · rw [if_pos w1_w, if_pos w1_w, if_neg (by omega), if_pos w1_w, or0_]
      · rw [if_neg w1_w, if_neg w1_w, or_0]
        by_cases w2_w : k_w = y_w.toNatClampNeg
        · rw [if_pos w2_w, if_pos w2_w]
        · rw [if_neg w2_w, if_neg w2_w, if_neg w1_w]
    have ev9 : ∀ p_w : Nat, e'.1 (a_w + 9) p_w = if p_w = (c_w.1 a_w 2).toNatClampNeg then (1 : Int32) <<< (x_w &&& 31) else if (p_w : Int) < (c_w.1 a_w 2).toInt then mvB x_w y_w (c_w.1 (a_w + 9) p_w) else c_w.1 (a_w + 9) p_w := fun p_w => by
      rw [r_w, if_neg (by omega), if_neg (by omega), if_neg (by omega)]
      by_cases w_w : p_w = (c_w.1 a_w 2).toNatClampNeg
      · rw [if_pos w_w, w_w]; exact a9
      · rw [if_neg w_w, ax _ _ (by omega) (by omega) (by omega)]; exact g9 p_w
    have ev10 : ∀ p_w : Nat, e'.1 (a_w + 10) p_w = if p_w = (c_w.1 a_w 2).toNatClampNeg then (1 : Int32) <<< (y_w &&& 31) else c_w.1 (a_w + 10) p_w := fun p_w => by
      rw [r_w, if_neg (by omega), if_neg (by omega), if_neg (by omega)]
      by_cases w_w : p_w = (c_w.1 a_w 2).toNatClampNeg
      · rw [if_pos w_w, w_w]; exact a10
      · rw [if_neg w_w, ax _ _ (by omega) (by omega) (by omega), gk _ _ (by omega) (by omega)]
    refine ⟨?_, by rw [r2, gz], ev2, eva, fun b_w k_w w1_w w2_w w3_w w4_w w5 => by rw [r_w, if_neg (by omega), if_neg (by omega), if_neg (by omega), ax _ _ (by omega) (by omega) (by omega), gk _ _ (by omega) (by omega)], ev6, ev7⟩
    have nP := cl_n p0_w
    have pp : (c_w.1 a_w 2 + 1).toInt = (c_w.1 a_w 2).toInt + 1 := i1 (by omega) (Int32.le_toInt _)
    have hP32 : 0 ≤ (c_w.1 a_w 2).toInt ∧ (c_w.1 a_w 2).toInt < 32 := ⟨p0_w, by omega⟩
    obtain ⟨B1, B2⟩ := B_w
    have B1 : ∀ p_w : Nat, (p_w : Int) < (c_w.1 a_w 2).toInt → ∀ k_w, k_w < 32 → b32 (c_w.1 (a_w + 9) p_w) k_w = (decide ((k_w : Int) < (c_w.1 a_w 1).toInt) && b32 (c_w.1 (a_w + 7) k_w) p_w) ∧ b32 (c_w.1 (a_w + 10) p_w) k_w = (decide ((k_w : Int) < (c_w.1 a_w 1).toInt) && b32 (c_w.1 (a_w + 6) k_w) p_w) := B1
    have B2 : ∀ k_w : Nat, (k_w : Int) < (c_w.1 a_w 1).toInt → ∀ b_w : Nat, b_w < 32 → (c_w.1 a_w 2).toInt ≤ b_w → b32 (c_w.1 (a_w + 6) k_w) b_w = false ∧ b32 (c_w.1 (a_w + 7) k_w) b_w = false := B2
    have e01 : e'.1 a_w 1 = c_w.1 a_w 1 := eva 1 (by decide)
    refine ⟨?_, ?_⟩
    · show ∀ p_w : Nat, (p_w : Int) < (e'.1 a_w 2).toInt → ∀ k_w, k_w < 32 → b32 (e'.1 (a_w + 9) p_w) k_w = (decide ((k_w : Int) < (e'.1 a_w 1).toInt) && b32 (e'.1 (a_w + 7) k_w) p_w) ∧ b32 (e'.1 (a_w + 10) p_w) k_w = (decide ((k_w : Int) < (e'.1 a_w 1).toInt) && b32 (e'.1 (a_w + 6) k_w) p_w)
      intro p_w hp k_w hk
      rw [ev2, pp] at hp
      rw [e01, ev9, ev10]
      by_cases hpP : p_w = (c_w.1 a_w 2).toNatClampNeg
      · rw [if_pos hpP, if_pos hpP, b32_1 hx32 hk, b32_1 hy32 hk]
        by_cases hk1 : (k_w : Int) < (c_w.1 a_w 1).toInt
        · obtain ⟨d6_w, d7_w⟩ := B2 k_w hk1 p_w (by omega) (by omega)
          rw [ev6 k_w hk1, ev7 k_w hk1, decide_eq_true hk1, Bool.true_and, Bool.true_and]
          by_cases w2_w : k_w = y_w.toNatClampNeg
          · obtain ⟨-, d7x⟩ := B2 x_w.toNatClampNeg (by omega) p_w (by omega) (by omega)
            rw [if_pos w2_w, if_pos w2_w, d7x, b32_or, d6_w, b32_1 hP32 (by omega), decide_eq_true hpP, decide_eq_true w2_w, decide_eq_false (show ¬ k_w = x_w.toNatClampNeg by omega)]
            exact ⟨rfl, rfl⟩
          · rw [if_neg w2_w, if_neg w2_w, d6_w, decide_eq_false w2_w]
            by_cases w1_w : k_w = x_w.toNatClampNeg
            · rw [if_pos w1_w, b32_1 hP32 (by omega), decide_eq_true hpP, decide_eq_true w1_w]
              exact ⟨rfl, rfl⟩
            · rw [if_neg w1_w, d7_w, decide_eq_false w1_w]
              exact ⟨rfl, rfl⟩
        · rw [decide_eq_false hk1, decide_eq_false (show ¬ k_w = x_w.toNatClampNeg by omega), decide_eq_false (show ¬ k_w = y_w.toNatClampNeg by omega), Bool.false_and, Bool.false_and]
          exact ⟨rfl, rfl⟩
      · have hp2 : (p_w : Int) < (c_w.1 a_w 2).toInt := by omega
        rw [if_neg hpP, if_pos hp2, if_neg hpP, mvB_b hx32 hy32 (by omega) hk]
        obtain ⟨b9, b10⟩ := B1 p_w hp2 k_w hk
        by_cases hk1 : (k_w : Int) < (c_w.1 a_w 1).toInt
        · rw [ev6 k_w hk1, ev7 k_w hk1]
          refine ⟨?_, ?_⟩
          · rw [decide_eq_true hk1, Bool.true_and]
            by_cases w1_w : k_w = x_w.toNatClampNeg
            · rw [if_pos w1_w, if_neg (by omega), if_pos w1_w, b32_1 hP32 (by omega), decide_eq_false hpP]
            · rw [if_neg w1_w]
              by_cases w2_w : k_w = y_w.toNatClampNeg
              · rw [if_pos w2_w, if_pos w2_w, b9, (B1 p_w hp2 x_w.toNatClampNeg (by omega)).1, w2_w, z7, b32_0, Bool.and_false, Bool.false_or, decide_eq_true (show ((x_w.toNatClampNeg : Nat) : Int) < (c_w.1 a_w 1).toInt by omega), Bool.true_and]
              · rw [if_neg w2_w, if_neg w2_w, if_neg w1_w, b9, decide_eq_true hk1, Bool.true_and]
          · rw [b10]
            by_cases w2_w : k_w = y_w.toNatClampNeg
            · rw [if_pos w2_w, b32_or, b32_1 hP32 (by omega), decide_eq_false hpP, Bool.or_false]
            · rw [if_neg w2_w]
        · rw [if_neg (show ¬ k_w = x_w.toNatClampNeg by omega), if_neg (show ¬ k_w = y_w.toNatClampNeg by omega), b9, b10, decide_eq_false hk1, Bool.false_and, Bool.false_and, Bool.false_and, Bool.false_and]
          exact ⟨rfl, rfl⟩
    · show ∀ k_w : Nat, (k_w : Int) < (e'.1 a_w 1).toInt → ∀ b_w : Nat, b_w < 32 → (e'.1 a_w 2).toInt ≤ b_w → b32 (e'.1 (a_w + 6) k_w) b_w = false ∧ b32 (e'.1 (a_w + 7) k_w) b_w = false
      intro k_w hk b_w hb_w hle
      rw [e01] at hk
      rw [ev2, pp] at hle
      obtain ⟨d6_w, d7_w⟩ := B2 k_w hk b_w hb_w (by omega)
      obtain ⟨-, d7x⟩ := B2 x_w.toNatClampNeg (by omega) b_w hb_w (by omega)
      have dP : b32 ((1 : Int32) <<< (c_w.1 a_w 2 &&& 31)) b_w = false := by rw [b32_1 hP32 hb_w]; exact decide_eq_false (by omega)
      rw [ev6 k_w hk, ev7 k_w hk]
      refine ⟨?_, ?_⟩
      · split
        · rw [b32_or, d6_w, dP]; rfl
        · exact d6_w
      · split
        · exact d7x
        · split
          · exact dP
          · exact d7_w
