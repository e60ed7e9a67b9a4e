/-! ===== the net with a wire more ===== -/
theorem fre_c {W_w : Int32} {f_w g_w : Nat → Int32} {s_w : Int} (h_w : ∀ j_w : Nat, (j_w : Int) < W_w.toInt → f_w j_w = g_w j_w) (r_w : fre W_w f_w s_w) : fre W_w g_w s_w := fun j_w hj => by rw [← h_w j_w hj]; exact r_w j_w hj
theorem flr_c {W_w : Int32} {f_w g_w : Nat → Int32} {s_w : Int} (h_w : ∀ j_w : Nat, (j_w : Int) < W_w.toInt → f_w j_w = g_w j_w) (r_w : flr W_w f_w s_w) : flr W_w g_w s_w := ⟨r_w.1, fre_c h_w r_w.2.1, fun k_w h1 h2 q_w => r_w.2.2 k_w h1 h2 (fre_c (fun j_w hj => (h_w j_w hj).symm) q_w)⟩
theorem CB.ofw {a : Nat} {c m_w : dc_M} (N_w : NR a c m_w) : CB (cn a c) := ⟨N_w.2.2.2.1, fun k_w hk b_w hb_w hp => (N_w.2.1.2.2 k_w hk).2.2.2.2.2.2.2 b_w hb_w hp⟩
theorem CB.eqw {n_w n' : Nat → Nat → Int32} (B : CB n_w) (h6 : n' 6 = n_w 6) (h7 : n' 7 = n_w 7) (h9 : n' 9 = n_w 9) (h10 : n' 10 = n_w 10) (h1 : n' 0 1 = n_w 0 1) (h2 : n' 0 2 = n_w 0 2) : CB n' := by
  unfold CB XB at B ⊢
  rw [h6, h7, h9, h10, h1, h2]
  exact B
theorem CB.ae {a : Nat} {c : dc_M} {x y z : Int32} (B : CB (cn a c)) (e0_w : 0 ≤ (c.1 a 1).toInt) (hE : (c.1 a 1).toInt < 16) : CB (cn a (aeM a c x y z)) := by
  obtain ⟨B1, B2⟩ := B
  have hn := cl_n e0_w
  have r_w : ∀ i_w k_w, ¬ (i_w = 0 ∧ k_w = 1) → ¬ (3 ≤ i_w ∧ i_w ≤ 8 ∧ k_w = (c.1 a 1).toNatClampNeg) → cn a (aeM a c x y z) i_w k_w = cn a c i_w k_w := fun i_w k_w h1 h2 => ae_n (by omega) (by omega)
  have r1_w : cn a (aeM a c x y z) 0 1 = cn a c 0 1 + 1 := wi_s
  obtain ⟨-, -, -, r6, r7, -⟩ := ae_v (a := a) (c := c) (x := x) (y := y) (z := z)
  have r6 : cn a (aeM a c x y z) 6 (c.1 a 1).toNatClampNeg = 0 := r6
  have r7 : cn a (aeM a c x y z) 7 (c.1 a 1).toNatClampNeg = 0 := r7
  have hn' : (((c.1 a 1).toNatClampNeg : Nat) : Int) = (cn a c 0 1).toInt := hn
  have hE' : (cn a c 0 1).toInt < 16 := hE
  have e0' : 0 ≤ (cn a c 0 1).toInt := e0_w
  generalize (c.1 a 1).toNatClampNeg = E at *
  generalize cn a (aeM a c x y z) = n' at *
  generalize cn a c = n_w at *
  have j1 : (n_w 0 1 + 1).toInt = (n_w 0 1).toInt + 1 := i1 (by omega) (Int32.le_toInt _)
  have z2 := r_w 0 2 (by omega) (by omega)
  refine ⟨fun p_w hp k_w hk => ?_, fun k_w hk b_w hb_w hp => ?_⟩
  · rw [z2] at hp
    rw [r_w 9 p_w (by omega) (by omega), r_w 10 p_w (by omega) (by omega), r1_w, j1]
    obtain ⟨b1, b2⟩ := B1 p_w hp k_w hk
    by_cases hkE : k_w = E
    · subst hkE
      rw [decide_eq_false (show ¬ (k_w : Int) < (n_w 0 1).toInt by omega), Bool.false_and] at b1 b2
      rw [b1, b2, r6, r7, b32_0, Bool.and_false]
      exact ⟨rfl, rfl⟩
    · rw [r_w 7 k_w (by omega) (by omega), r_w 6 k_w (by omega) (by omega), b1, b2]
      rw [show decide ((k_w : Int) < (n_w 0 1).toInt + 1) = decide ((k_w : Int) < (n_w 0 1).toInt) from decide_eq_decide.mpr (by omega)]
      exact ⟨rfl, rfl⟩
  · rw [r1_w, j1] at hk
    rw [z2] at hp
    by_cases hkE : k_w = E
    · rw [hkE, r6, r7, b32_0]
      exact ⟨rfl, rfl⟩
    · rw [r_w 7 k_w (by omega) (by omega), r_w 6 k_w (by omega) (by omega)]
      exact B2 k_w (by omega) b_w hb_w hp
/-- a wire more behind two events: the class's net against the reference's -/
theorem cu_sim {a : Nat} {x y : Int32} {c m_w c' m' : dc_M} (ha_w : a = 41 ∨ a = 52) (N_w : NR a c m_w) (hw : (c.1 a 0).toInt < 6) (he : (c.1 a 1).toInt ≤ 14) (hp : (c.1 a 2).toInt ≤ 18) (hx : 0 ≤ x.toInt ∧ x.toInt < (c.1 a 1).toInt) (hy : 0 ≤ y.toInt ∧ y.toInt < (c.1 a 1).toInt) (hxy : x.toInt ≠ y.toInt) (h_w : d_X3_addWireBehind a x y c = some c') (h' : d_X10_addCure 82 x y m_w = some m') : NR a c' m' ∧ c'.2 = c.2 ∧ (∀ b_w k_w, ¬ (a ≤ b_w ∧ b_w ≤ a + 10) → c'.1 b_w k_w = c.1 b_w k_w) ∧ (∀ b_w k_w, b_w ≠ 82 → ¬ (83 ≤ b_w ∧ b_w ≤ 90) → m'.1 b_w k_w = m_w.1 b_w k_w) ∧ (∀ k_w, k_w ≠ 0 → k_w ≠ 3 → k_w ≠ 10 → m'.1 82 k_w = m_w.1 82 k_w) ∧ c'.1 a 0 = c.1 a 0 + 1 := by
  have B := CB.ofw N_w
  obtain ⟨⟨n0_w, n0b, n0l⟩, ⟨n1_w, n1b, n1l⟩, ⟨n2_w, n2b, n2f⟩, -, n13, nkd⟩ := N_w
  obtain ⟨L', fl', rfl⟩ := ac_run (by rw [← n0_w]; exact n0b.1) (by rw [← n0_w]; exact hw) h'
  have nx := cl_n hx.1
  have ny := cl_n hy.1
  have nE := cl_n n1b.1
  have nW := cl_n n0b.1
  have eE : (c.1 a 1 + 1).toInt = (c.1 a 1).toInt + 1 := i1 (by omega) (Int32.le_toInt _)
  have eE2 : (c.1 a 1 + 1 + 1).toInt = (c.1 a 1).toInt + 2 := by rw [i1 (by omega) (Int32.le_toInt _), eE]; omega
  have eW : (c.1 a 0 + 1).toInt = (c.1 a 0).toInt + 1 := i1 (by omega) (Int32.le_toInt _)
  have eP : (c.1 a 2 + 1).toInt = (c.1 a 2).toInt + 1 := i1 (by omega) (Int32.le_toInt _)
  have eP2 : (c.1 a 2 + 1 + 1).toInt = (c.1 a 2).toInt + 2 := by rw [i1 (by omega) (Int32.le_toInt _), eP]; omega
  have nE1 := cl_n (x := c.1 a 1 + 1) (by omega)
  have cE1 : (c.1 a 1 + 1).toNatClampNeg = (c.1 a 1).toNatClampNeg + 1 := by omega
  obtain ⟨v0_w, v3, v10, vk, v83, v84, v85, v86, v87, v88, v89, v90, vb⟩ := @ac_v x y L' m_w (c.1 a 1).toNatClampNeg (c.1 a 0).toNatClampNeg (by rw [← n1_w]) (by rw [← n1_w]; exact cE1) (by rw [← n0_w]) (by omega) (by omega) (by omega)
  rw [← n0_w] at v0_w v85
  rw [← n1_w] at v3
  rw [← n2_w] at v10 v88 v89
  generalize acM m_w x y L' = m' at *
  unfold d_X3_addWireBehind at h_w
  cases hL : d_X3_freeLetter a c with
  | none => rw [hL] at h_w; cases h_w
  | some L =>
    have fl_w := fl_run n0b.1 hw hL
    have eL : L = L' := Int32.toInt_inj.mp (flr_eq (flr_c (fun j_w hj => (n0l j_w hj).1) fl_w) (by rw [n0_w]; exact fl'))
    rw [hL, Option.bind_some, aw_eq ha_w hw] at h_w
    simp only [dc_let_eq] at h_w
    have a1_w : (awM a c L 2).1 a 1 = c.1 a 1 := by unfold awM; rw [wi_k (by omega), wi_k (by omega), wi_k (by omega)]
    have ak : ∀ b_w k_w, ¬ (b_w = a ∧ k_w = 0) → b_w ≠ a + 1 → b_w ≠ a + 2 → (awM a c L 2).1 b_w k_w = c.1 b_w k_w := fun b_w k_w g1 g2 g3_w => by unfold awM; rw [wi_k (by omega), wi_k (by omega), wi_k (by omega)]
    have a0_w : (awM a c L 2).1 a 0 = c.1 a 0 + 1 := wi_s
    have al1 : ∀ k_w, (awM a c L 2).1 (a + 1) k_w = if k_w = (c.1 a 0).toNatClampNeg then L else c.1 (a + 1) k_w := fun k_w => by
      unfold awM
      rw [wi_k (by omega), wi_k (by omega)]
      by_cases g_w : k_w = (c.1 a 0).toNatClampNeg
      · rw [if_pos g_w, g_w]; exact wi_s
      · rw [if_neg g_w, wi_k (by omega)]
    have al2 : ∀ k_w, (awM a c L 2).1 (a + 2) k_w = if k_w = (c.1 a 0).toNatClampNeg then 2 else c.1 (a + 2) k_w := fun k_w => by
      unfold awM
      rw [wi_k (by omega)]
      by_cases g_w : k_w = (c.1 a 0).toNatClampNeg
      · rw [if_pos g_w, g_w]; exact wi_s
      · rw [if_neg g_w, wi_k (by omega), wi_k (by omega)]
    have az : (awM a c L 2).2 = c.2 := rfl
    have Ba : CB (cn a (awM a c L 2)) := B.eqw (funext (fun k_w => ak _ k_w (by omega) (by omega) (by omega))) (funext (fun k_w => ak _ k_w (by omega) (by omega) (by omega))) (funext (fun k_w => ak _ k_w (by omega) (by omega) (by omega))) (funext (fun k_w => ak _ k_w (by omega) (by omega) (by omega))) (ak _ 1 (by omega) (by omega) (by omega)) (ak _ 2 (by omega) (by omega) (by omega))
    generalize awM a c L 2 = c1 at *
    rw [ae_eq ha_w (show (c1.1 a 1).toInt < 16 by rw [a1_w]; omega)] at h_w
    have b1 : (aeM a c1 (c.1 a 0) 1 0).1 a 1 = c.1 a 1 + 1 := by
      show (dc_wi _ a 1 (c1.1 a 1 + 1)).1 a 1 = _
      rw [wi_s, a1_w]
    have bk : ∀ b_w k_w, ¬ (b_w = a ∧ k_w = 1) → ¬ (a + 3 ≤ b_w ∧ b_w ≤ a + 8 ∧ k_w = (c.1 a 1).toNatClampNeg) → (aeM a c1 (c.1 a 0) 1 0).1 b_w k_w = c1.1 b_w k_w := fun b_w k_w g1 g2 => ae_n g1 (by rw [a1_w]; exact g2)
    have bv_w := ae_v (a := a) (c := c1) (x := c.1 a 0) (y := 1) (z := 0)
    rw [a1_w] at bv_w
    have bz : (aeM a c1 (c.1 a 0) 1 0).2 = c.2 := az
    have Bb := Ba.ae (x := c.1 a 0) (y := 1) (z := 0) (by rw [a1_w]; exact n1b.1) (by rw [a1_w]; omega)
    dsimp only at h_w
    generalize aeM a c1 (c.1 a 0) 1 0 = c2 at *
    rw [ae_eq ha_w (show (c2.1 a 1).toInt < 16 by rw [b1]; omega)] at h_w
    have d1_w : (aeM a c2 (c.1 a 0) 0 0).1 a 1 = c.1 a 1 + 1 + 1 := by
      show (dc_wi _ a 1 (c2.1 a 1 + 1)).1 a 1 = _
      rw [wi_s, b1]
    have dk : ∀ b_w k_w, ¬ (b_w = a ∧ k_w = 1) → ¬ (a + 3 ≤ b_w ∧ b_w ≤ a + 8 ∧ k_w = (c.1 a 1).toNatClampNeg + 1) → (aeM a c2 (c.1 a 0) 0 0).1 b_w k_w = c2.1 b_w k_w := fun b_w k_w g1 g2 => ae_n g1 (by rw [b1, cE1]; exact g2)
    have dv := ae_v (a := a) (c := c2) (x := c.1 a 0) (y := 0) (z := 0)
    rw [b1, cE1] at dv
    have dz : (aeM a c2 (c.1 a 0) 0 0).2 = c.2 := bz
    have Bd_w := Bb.ae (x := c.1 a 0) (y := 0) (z := 0) (by rw [b1]; omega) (by rw [b1]; omega)
    dsimp only at h_w
    generalize aeM a c2 (c.1 a 0) 0 0 = c3 at *
    rw [a1_w, b1, if_neg (by omega), if_neg (by omega)] at h_w
    obtain ⟨bv3, bv4, bv5, bv6, bv7, bv8⟩ := bv_w
    obtain ⟨dv3, dv4, dv5, dv6, dv7, dv8⟩ := dv
    have f2_w : c3.1 a 2 = c.1 a 2 := by rw [dk _ _ (by omega) (by omega), bk _ _ (by omega) (by omega), ak _ _ (by omega) (by omega) (by omega)]
    cases h4 : d_X3_handOver a x (c.1 a 1) c3 with
    | none => rw [h4] at h_w; cases h_w
    | some c4 =>
      rw [h4, Option.bind_some] at h_w
      obtain ⟨B4, z4, p4_w, k4_w, o4_w, t4_w, f4_w⟩ := ho_sim ha_w (by rw [d1_w]; omega) (by rw [d1_w]; omega) (by rw [d1_w]; omega) (by omega) (by rw [f2_w]; exact n2b.1) (by rw [f2_w]; omega) Bd_w (by rw [dk _ _ (by omega) (by omega)]; exact bv7) h4
      rw [d1_w] at t4_w f4_w
      rw [f2_w] at p4_w t4_w f4_w
      have e4_w : c4.1 a 1 = c.1 a 1 + 1 + 1 := by rw [k4_w 1 (by decide), d1_w]
      cases h5 : d_X3_handOver a y (c.1 a 1 + 1) c4 with
      | none => rw [h5] at h_w; cases h_w
      | some c5 =>
        rw [h5] at h_w
        have hee : c5 = c' := Option.some.inj h_w
        rw [← hee]
        clear hee
        have f4E := f4_w ((c.1 a 1).toNatClampNeg + 1) (by omega)
        rw [if_neg (by omega), if_neg (by omega), dv7] at f4E
        obtain ⟨B5, z5, p5_w, k5_w, o5_w, t5_w, f5_w⟩ := ho_sim ha_w (by rw [e4_w]; omega) (by rw [e4_w]; omega) (by rw [e4_w]; omega) (by omega) (by rw [p4_w]; omega) (by rw [p4_w]; omega) B4 (by rw [cE1]; exact f4E) h5
        rw [e4_w] at t5_w f5_w
        rw [p4_w] at p5_w t5_w f5_w
        rw [cE1] at t5_w f5_w
        have r0 : c5.1 a 0 = c.1 a 0 + 1 := by rw [k5_w 0 (by decide), k4_w 0 (by decide), dk _ _ (by omega) (by omega), bk _ _ (by omega) (by omega), a0_w]
        have r1_w : c5.1 a 1 = c.1 a 1 + 1 + 1 := by rw [k5_w 1 (by decide), e4_w]
        have r13 : c5.1 a 13 = c.1 a 13 := by rw [k5_w 13 (by decide), k4_w 13 (by decide), dk _ _ (by omega) (by omega), bk _ _ (by omega) (by omega), ak _ _ (by omega) (by omega) (by omega)]
        have rl : ∀ b_w k_w, b_w = a + 1 ∨ b_w = a + 2 → c5.1 b_w k_w = c1.1 b_w k_w := fun b_w k_w hb_w => by
          rw [o5_w _ _ (by omega) (by omega) (by omega) (by omega) (by omega), o4_w _ _ (by omega) (by omega) (by omega) (by omega) (by omega), dk _ _ (by omega) (by omega), bk _ _ (by omega) (by omega)]
        have re : ∀ b_w k_w, b_w = a + 3 ∨ b_w = a + 4 ∨ b_w = a + 5 ∨ b_w = a + 8 → c5.1 b_w k_w = c3.1 b_w k_w := fun b_w k_w hb_w => by
          rw [o5_w _ _ (by omega) (by omega) (by omega) (by omega) (by omega), o4_w _ _ (by omega) (by omega) (by omega) (by omega) (by omega)]
        have old_w : ∀ b_w k_w, k_w ≠ (c.1 a 1).toNatClampNeg → k_w ≠ (c.1 a 1).toNatClampNeg + 1 → a + 3 ≤ b_w → c3.1 b_w k_w = c.1 b_w k_w := fun b_w k_w g1 g2 g3_w => by
          rw [dk _ _ (by omega) (by omega), bk _ _ (by omega) (by omega), ak _ _ (by omega) (by omega) (by omega)]
        have mid_w : ∀ b_w, a + 3 ≤ b_w → c3.1 b_w (c.1 a 1).toNatClampNeg = c2.1 b_w (c.1 a 1).toNatClampNeg := fun b_w g_w => dk _ _ (by omega) (by omega)
        refine ⟨⟨⟨by rw [r0, v0_w], by rw [r0]; omega, fun j_w hj => ?_⟩, ⟨by rw [r1_w, v3], by rw [r1_w]; omega, fun k_w hk => ?_⟩, ⟨by rw [p5_w, v10], by rw [p5_w]; omega, by rw [r13, vk 11 (by decide) (by decide) (by decide)]; exact n2f⟩, B5.1, by rw [r13]; exact n13, fun j_w hj => (by rw [r0, eW] at hj; rw [rl _ _ (Or.inr rfl), al2]; split <;> first | decide | exact nkd j_w (by omega))⟩, by rw [z5, z4, dz], fun b_w k_w hb_w => ?_, vb, vk, r0⟩
        · rw [r0, eW] at hj
          rw [rl _ _ (Or.inl rfl), rl _ _ (Or.inr rfl), al1, al2, v83, v84]
          by_cases g_w : j_w = (c.1 a 0).toNatClampNeg
          · repeat rw [if_pos g_w]
            exact ⟨eL, rfl⟩
          · repeat rw [if_neg g_w]
            exact n0l j_w (by omega)
        · rw [r1_w, eE2] at hk
          refine (fun (q_w : _ ∧ _ ∧ _ ∧ _ ∧ _ ∧ _ ∧ _) => ⟨q_w.1, q_w.2.1, q_w.2.2.1, q_w.2.2.2.1, q_w.2.2.2.2.1, q_w.2.2.2.2.2.1, q_w.2.2.2.2.2.2, fun b_w hb_w hq => B5.2 k_w (show (k_w : Int) < (c5.1 a 1).toInt by rw [r1_w]; omega) b_w hb_w hq⟩) ?_
          rw [re _ _ (Or.inl rfl), re _ _ (Or.inr (Or.inl rfl)), re _ _ (Or.inr (Or.inr (Or.inl rfl))), re _ _ (Or.inr (Or.inr (Or.inr rfl))), t5_w k_w (by omega), f5_w k_w (by omega), t4_w k_w (by omega), f4_w k_w (by omega), f4_w y.toNatClampNeg (by omega), v85, v86, v87, v88, v89, v90, r0, eW]
          by_cases g1 : k_w = (c.1 a 1).toNatClampNeg
          · have x1_w : ¬ k_w = (c.1 a 1).toNatClampNeg + 1 := by omega
            have x2_w : ¬ k_w = y.toNatClampNeg := by omega
            have x3 : k_w = (c.1 a 1).toNatClampNeg ∨ k_w = (c.1 a 1).toNatClampNeg + 1 := Or.inl g1
            repeat rw [if_neg x1_w]
            repeat rw [if_neg x2_w]
            repeat rw [if_pos x3]
            repeat rw [if_pos g1]
            rw [g1, mid_w _ (by omega), mid_w _ (by omega), mid_w _ (by omega), mid_w _ (by omega), mid_w _ (by omega), bv3, bv4, bv5, bv6, bv8, or0_, old_w _ _ (by omega) (by omega) (by omega)]
            exact ⟨rfl, rfl, rfl, rfl, (n1l x.toNatClampNeg (by omega)).2.2.2.2.1, rfl, n0b.1, by omega⟩
          · by_cases g2 : k_w = (c.1 a 1).toNatClampNeg + 1
            · have x3 : k_w = (c.1 a 1).toNatClampNeg ∨ k_w = (c.1 a 1).toNatClampNeg + 1 := Or.inr g2
              have x4_w : ¬ y.toNatClampNeg = (c.1 a 1).toNatClampNeg := by omega
              have x5_w : ¬ y.toNatClampNeg = x.toNatClampNeg := by omega
              repeat rw [if_pos x3]
              repeat rw [if_neg x4_w]
              repeat rw [if_neg x5_w]
              repeat rw [if_neg g1]
              repeat rw [if_pos g2]
              rw [g2, dv3, dv4, dv5, dv6, dv8, or0_, old_w _ _ (by omega) (by omega) (by omega)]
              exact ⟨rfl, rfl, rfl, rfl, (n1l y.toNatClampNeg (by omega)).2.2.2.2.1, rfl, n0b.1, by omega⟩
            · obtain ⟨w3_w, w4_w, w5, w6_w, w7_w, w8, w9, -⟩ := n1l k_w (by omega)
              have x3 : ¬ (k_w = (c.1 a 1).toNatClampNeg ∨ k_w = (c.1 a 1).toNatClampNeg + 1) := by omega
              repeat rw [if_neg x3]
              repeat rw [if_neg g1]
              repeat rw [if_neg g2]
              rw [old_w _ _ g1 g2 (by omega), old_w _ _ g1 g2 (by omega), old_w _ _ g1 g2 (by omega), old_w _ _ g1 g2 (by omega), old_w _ _ g1 g2 (by omega), old_w _ _ g1 g2 (by omega)]
              refine ⟨w3_w, w4_w, w5, w6_w, ?_, w8, w9.1, by omega⟩
              by_cases g3_w : k_w = y.toNatClampNeg
              · rw [if_pos g3_w, if_neg (by omega), if_pos g3_w]
              · rw [if_neg g3_w]
                by_cases g4 : k_w = x.toNatClampNeg
                · rw [if_pos g4, if_pos g4]
                · rw [if_neg g4, if_neg g4, if_neg g3_w]
                  exact w7_w
        · rw [show c5.1 b_w k_w = c4.1 b_w k_w from o5_w _ _ (by omega) (by omega) (by omega) (by omega) (by omega), o4_w _ _ (by omega) (by omega) (by omega) (by omega) (by omega), dk _ _ (by omega) (by omega), bk _ _ (by omega) (by omega), ak _ _ (by omega) (by omega) (by omega)]
