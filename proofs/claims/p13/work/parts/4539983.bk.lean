/-! ===== taken back: what the class remembers is what the reference lays ===== -/
theorem mdb_w {a_w Wn : Nat} {c_w : dc_M} {q_w : Int32} (n0_w : (c_w.1 a_w 0).toInt = Wn) (n6_w : Wn ≤ 6) (h_w : d_X3_madeWires a_w c_w = some q_w) : ∀ i_w, i_w < Wn → b32 q_w i_w = decide ((c_w.1 (a_w + 2) i_w).toInt ≠ 0) := by
  unfold d_X3_madeWires d_X3_madeWires_l4 at h_w
  have key_w : ∀ i_w, i_w < 32 → b32 q_w i_w = (decide (i_w < Wn) && decide ((c_w.1 (a_w + 2) i_w).toInt ≠ 0)) := by
    refine dc_lp_inv (s := ((0 : Int32), (0 : Int32))) (fun z_w : Int32 × Int32 => ∃ j_w : Nat, j_w ≤ Wn ∧ z_w.2 = Int32.ofNat j_w ∧ ∀ i_w, i_w < 32 → b32 z_w.1 i_w = (decide (i_w < j_w) && decide ((c_w.1 (a_w + 2) i_w).toInt ≠ 0))) (fun q_w : Int32 => ∀ i_w, i_w < 32 → b32 q_w i_w = (decide (i_w < Wn) && decide ((c_w.1 (a_w + 2) i_w).toInt ≠ 0))) (fun z_w z' hI hz => ?_) (fun z_w q_w hI hz => ?_) ⟨0, Nat.zero_le _, rfl, fun i_w _ => by show b32 0 i_w = _; rw [b32_0, decide_eq_false (Nat.not_lt_zero i_w), Bool.false_and]⟩ h_w
    · obtain ⟨j_w, j1, j2_w, j3_w⟩ := hI
      obtain ⟨x1_w, x2_w⟩ := z_w
      have j2_w : x2_w = Int32.ofNat j_w := j2_w
      have j3_w : ∀ i_w, i_w < 32 → b32 x1_w i_w = (decide (i_w < j_w) && decide ((c_w.1 (a_w + 2) i_w).toInt ≠ 0)) := j3_w
      have hz : d_X3_madeWires_l4b a_w x1_w x2_w c_w = some (.inl z') := hz
      unfold d_X3_madeWires_l4b at hz
      have jt : (Int32.ofNat j_w).toInt = j_w := mk_i (by omega)
      have jn : (Int32.ofNat j_w).toNatClampNeg = j_w := on_n (by omega)
      rw [j2_w, n0_w, jt, jn] at hz
      by_cases c1_w : (Wn : Int) ≤ j_w
      · rw [if_pos c1_w] at hz; cases hz
      · rw [if_neg c1_w] at hz
        by_cases c2_w : (c_w.1 (a_w + 2) j_w).toInt = 0
        · rw [if_pos c2_w] at hz
          have hz := Sum.inl.inj (Option.some.inj hz)
          rw [← hz]
          refine ⟨j_w + 1, by omega, on_1 (by omega), fun i_w hi_w => ?_⟩
          show b32 x1_w i_w = _
          rw [j3_w i_w hi_w]
          by_cases ej : i_w = j_w
          · rw [ej, decide_eq_false (Nat.lt_irrefl j_w), Bool.false_and, decide_eq_false (show ¬ (c_w.1 (a_w + 2) j_w).toInt ≠ 0 from fun r_w => r_w c2_w), Bool.and_false]
          · rw [show decide (i_w < j_w + 1) = decide (i_w < j_w) from decide_eq_decide.mpr (by omega)]
        · rw [if_neg c2_w] at hz
          have hz := Sum.inl.inj (Option.some.inj hz)
          rw [← hz]
          refine ⟨j_w + 1, by omega, on_1 (by omega), fun i_w hi_w => ?_⟩
          show b32 (x1_w ||| ((1 : Int32) <<< (Int32.ofNat j_w &&& 31))) i_w = _
          rw [b32_or, j3_w i_w hi_w, b32_1 ⟨by omega, by omega⟩ hi_w, jn]
          by_cases ej : i_w = j_w
          · rw [ej, decide_eq_true (show j_w = j_w from rfl), Bool.or_true, decide_eq_true (Nat.lt_succ_self j_w), decide_eq_true c2_w]
            rfl
          · rw [decide_eq_false ej, Bool.or_false, show decide (i_w < j_w + 1) = decide (i_w < j_w) from decide_eq_decide.mpr (by omega)]
    · obtain ⟨j_w, j1, j2_w, j3_w⟩ := hI
      obtain ⟨x1_w, x2_w⟩ := z_w
      have j2_w : x2_w = Int32.ofNat j_w := j2_w
      have j3_w : ∀ i_w, i_w < 32 → b32 x1_w i_w = (decide (i_w < j_w) && decide ((c_w.1 (a_w + 2) i_w).toInt ≠ 0)) := j3_w
      have hz : d_X3_madeWires_l4b a_w x1_w x2_w c_w = some (.inr q_w) := hz
      unfold d_X3_madeWires_l4b at hz
      have jt : (Int32.ofNat j_w).toInt = j_w := mk_i (by omega)
      rw [j2_w, n0_w, jt] at hz
      by_cases c1_w : (Wn : Int) ≤ j_w
      · rw [if_pos c1_w] at hz
        have hz := Sum.inr.inj (Option.some.inj hz)
        rw [← hz]
        have je : j_w = Wn := by omega
        rw [je] at j3_w
        exact j3_w
      · rw [if_neg c1_w] at hz
        split at hz
        · cases hz
        · cases hz
  intro i_w hi_w
  rw [key_w i_w (by omega), decide_eq_true hi_w, Bool.true_and]
theorem bm1_w : ∀ k_w, k_w < 32 → b32 (-1) k_w = true := by decide +kernel
theorem on4_w {t_w : Nat} (h_w : t_w < 1000) : Int32.ofNat t_w ≠ -4 := fun q_w => by
  have q_w := congrArg Int32.toInt q_w
  rw [mk_i (by omega), show ((-4 : Int32)).toInt = -4 from rfl] at q_w
  omega
theorem n4_w {x : Int32} : x.toInt = -4 ↔ x = -4 := ⟨fun q_w => Int32.toInt_inj.mp (q_w.trans (show (-4 : Int) = ((-4 : Int32)).toInt from rfl)), fun q_w => by rw [q_w]; rfl⟩
/-- the rise of k_w, ready in s, is taken back by e -/
def HBw (made_w : Int32) (bh W_w X_w : Nat → Int32) (s k_w e : Nat) : Bool := ((decide (bh (16 * s + k_w) ≠ -4) && decide (bh (16 * s + e) ≠ -4)) && !(b32 (X_w (bh (16 * s + e)).toNatClampNeg) (W_w k_w).toNatClampNeg)) && (b32 made_w (W_w k_w).toNatClampNeg && decide (W_w e ≠ W_w k_w))
theorem ba_cmp {a_w : Nat} {z_w m_w e : dc_M} (ha_w : a_w = 41 ∨ a_w = 52) (K_w : MQm z_w) (k12 : z_w.1 1 12 ≠ 0) (a7 : z_w.2.2.1 1 7 = a_w) (N_w : NR a_w z_w m_w) (S_w : SP 4 a_w z_w m_w) (hR : m_w.1 82 37 = 1) (h_w : d_X10_layBacks 82 m_w = some e) : z_w.1 12 4 = e.1 82 43 ∧ z_w.1 12 5 = e.1 82 44 ∧ z_w.1 12 6 = e.1 82 45 ∧ z_w.1 12 7 = e.1 82 46 := by
  obtain ⟨-, c0_w, c1_w, k1_w, k2_w, k3_w, k4_w, k5_w⟩ := K_w k12
  rw [a7] at k1_w k4_w
  rcases S_w with ⟨s1_w, s2_w, n_w, ⟨n1_w, n2_w⟩, s3_w, s4_w, ⟨g1, g2, RR⟩, s5, s6_w, s7⟩ | ⟨v_w, -, -, -, -, -, s6_w⟩
  · have h40 : (c0_w.1 4 0).toInt = n_w := by rw [k2_w 4 0 (by decide) (by decide) (by omega)]; exact s3_w
    obtain ⟨made_w, q2_w, hm_w, -, w_w, ht⟩ := cf_run n2_w h40 k3_w k4_w
    have N' := N_w
    obtain ⟨⟨w0_w, ⟨w1_w, w1'⟩, w2_w⟩, ⟨v0_w, ⟨v1_w, v2⟩, v3⟩, -, -, -, kd⟩ := N_w
    obtain ⟨E_w, hE⟩ : ∃ E_w : Nat, (z_w.1 a_w 1).toInt = E_w := ⟨(z_w.1 a_w 1).toInt.toNat, by omega⟩
    obtain ⟨Wn, hW⟩ : ∃ Wn : Nat, (z_w.1 a_w 0).toInt = Wn := ⟨(z_w.1 a_w 0).toInt.toNat, by omega⟩
    have h16_w : E_w ≤ 16 := by omega
    have h6 : Wn ≤ 6 := by omega
    have zc : ∀ i_w, i_w ≤ 10 → i_w ≠ 8 → q2_w.1 (a_w + i_w) = z_w.1 (a_w + i_w) := fun i_w hi_w h8 => funext (fun k_w => (w_w (a_w + i_w) k_w (by omega)).trans (by rw [k1_w i_w hi_w h8]))
    have zs : ∀ b_w k_w, 4 ≤ b_w → b_w ≤ 10 → ¬ (b_w = 4 ∧ k_w = 11) → q2_w.1 b_w k_w = z_w.1 b_w k_w := fun b_w k_w b1 b2 b3 => (w_w b_w k_w (by omega)).trans (k2_w b_w k_w b1 b2 b3)
    have qE : (q2_w.1 a_w 1).toInt = E_w := by rw [show q2_w.1 a_w = z_w.1 a_w from zc 0 (by decide) (by decide)]; exact hE
    have q40 : (q2_w.1 4 0).toInt = n_w := by rw [w_w 4 0 (by omega)]; exact h40
    have q3_w : ∀ k_w, q2_w.1 (a_w + 3) k_w = z_w.1 (a_w + 3) k_w := fun k_w => congrFun (zc 3 (by decide) (by decide)) k_w
    have W85 : ∀ k_w, k_w < E_w → z_w.1 (a_w + 3) k_w = m_w.1 85 k_w := fun k_w hk => (v3 k_w (by omega)).1
    have wr_w : ∀ k_w, k_w < E_w → 0 ≤ (m_w.1 85 k_w).toInt ∧ (m_w.1 85 k_w).toInt < Wn := fun k_w hk => by
      have q_w := (v3 k_w (by omega)).2.2.2.2.2.2.1
      rw [W85 k_w hk] at q_w
      omega
    have cell_w : ∀ s e, s < n_w → e < E_w → m_w.1 100 (16 * s + e) = -4 ∨ ∃ t_w, t_w < n_w ∧ m_w.1 100 (16 * s + e) = Int32.ofNat t_w ∧ z_w.1 9 (16 * s + e) = Int32.ofNat t_w := fun s e hs he => g2 s e hs (by omega)
    have mdbit : ∀ k_w, k_w < E_w → b32 made_w (m_w.1 85 k_w).toNatClampNeg = decide (¬ (m_w.1 84 (m_w.1 85 k_w).toNatClampNeg).toInt ≤ 0) := fun k_w hk => by
      have r_w := wr_w k_w hk
      have rn := cl_n r_w.1
      have kj := kd (m_w.1 85 k_w).toNatClampNeg (by omega)
      have c0a : c0_w.1 a_w = z_w.1 a_w := k1_w 0 (by decide) (by decide)
      rw [mdb_w (Wn := Wn) (by rw [c0a]; exact hW) h6 hm_w (m_w.1 85 k_w).toNatClampNeg (by omega), k1_w 2 (by decide) (by decide)]
      rw [(w2_w (m_w.1 85 k_w).toNatClampNeg (by omega)).2] at kj ⊢
      exact decide_eq_decide.mpr (by omega)
    have bhv : ∀ s e, s < n_w → e < E_w → d_X7_behind 4 (Int32.ofNat s) (Int32.ofNat e) q2_w = m_w.1 100 (16 * s + e) := fun s e hs he => by
      obtain ⟨r1_w, -⟩ := RR.1 s hs
      unfold d_X7_behind
      have st_w : (Int32.ofNat s).toInt = s := mk_i (by omega)
      have et : (Int32.ofNat e).toInt = e := mk_i (by omega)
      have sn : (Int32.ofNat s).toNatClampNeg = s := on_n (by omega)
      have en : (Int32.ofNat e).toNatClampNeg = e := on_n (by omega)
      rw [ix_1 st_w (by omega) et (by omega), sn, show 4 + 2 = 6 from rfl, show 4 + 5 = 9 from rfl, zs 6 s (by decide) (by decide) (by omega), zs 9 (16 * s + e) (by decide) (by decide) (by omega)]
      have bt_w := b32_t (x := z_w.1 6 s) (e := Int32.ofNat e) ⟨by omega, by omega⟩
      rw [en, r1_w e (by omega), decide_eq_true (show (e : Int) < (z_w.1 a_w 1).toInt by omega), Bool.true_and] at bt_w
      by_cases c5_w : m_w.1 100 (16 * s + e) = -4
      · rw [if_pos (bt_w.mpr (decide_eq_false (fun r_w => r_w c5_w)))]
        exact c5_w.symm
      · rw [if_neg (fun r_w => by have := bt_w.mp r_w; rw [decide_eq_true c5_w] at this; cases this)]
        rcases cell_w s e hs he with r_w | ⟨t_w, -, t1_w, t2_w⟩
        · exact absurd r_w c5_w
        · rw [t1_w, t2_w]
    have HC : HCw (HBw made_w (m_w.1 100) (m_w.1 85) (z_w.1 8)) a_w E_w n_w made_w q2_w := fun s e hs he => by
      obtain ⟨r1_w, r2⟩ := RR.1 s hs
      rw [bhv s e hs he]
      refine ⟨fun hneg k_w hk => ?_, fun hpos k_w hk => ?_⟩
      · rcases cell_w s e hs he with r_w | ⟨t_w, t0_w, t1_w, -⟩
        · unfold HBw
          rw [decide_eq_false (show ¬ m_w.1 100 (16 * s + e) ≠ -4 from fun q_w => q_w r_w), Bool.and_false, Bool.false_and, Bool.false_and]
        · rw [t1_w, mk_i (by omega)] at hneg
          omega
      · rcases cell_w s e hs he with r_w | ⟨t_w, t0_w, t1_w, -⟩
        · rw [r_w] at hpos
          exact absurd hpos (by decide)
        · have rk := wr_w k_w hk
          have re := wr_w e he
          have nk := cl_n rk.1
          have ne_w := cl_n re.1
          have tn_w : (Int32.ofNat t_w).toNatClampNeg = t_w := on_n (by omega)
          have wk_w : (m_w.1 85 k_w).toNatClampNeg < 32 := by omega
          have dd : decide (m_w.1 85 e ≠ m_w.1 85 k_w) = !(decide ((m_w.1 85 k_w).toNatClampNeg = (m_w.1 85 e).toNatClampNeg)) := by
            by_cases c_w : m_w.1 85 e = m_w.1 85 k_w
            · rw [c_w, decide_eq_false (show ¬ m_w.1 85 k_w ≠ m_w.1 85 k_w from fun q_w => q_w rfl), decide_eq_true (show (m_w.1 85 k_w).toNatClampNeg = (m_w.1 85 k_w).toNatClampNeg from rfl)]
              rfl
            · rw [decide_eq_true (show m_w.1 85 e ≠ m_w.1 85 k_w from c_w), decide_eq_false (show ¬ (m_w.1 85 k_w).toNatClampNeg = (m_w.1 85 e).toNatClampNeg from fun q_w => c_w (Int32.toInt_inj.mp (by omega)))]
              rfl
          unfold HBw mskw
          rw [bhv s e hs he, t1_w, tn_w, q3_w e, q3_w k_w, W85 e he, W85 k_w hk, zs 6 s (by decide) (by decide) (by omega), zs 8 s (by decide) (by decide) (by omega), zs 8 t_w (by decide) (by decide) (by omega), r1_w k_w (by omega), decide_eq_true (show (k_w : Int) < (z_w.1 a_w 1).toInt by omega), Bool.true_and, b32_and, b32_and, b32_and, b32_xor, b32_xor, bm1_w _ wk_w, b32_1 ⟨re.1, by omega⟩ wk_w, decide_eq_true (show Int32.ofNat t_w ≠ -4 from on4_w (by omega)), dd]
          by_cases ck : m_w.1 100 (16 * s + k_w) ≠ -4
          · have bs : b32 (z_w.1 8 s) (m_w.1 85 k_w).toNatClampNeg = true := (r2 _ wk_w).mpr ⟨k_w, by omega, ck, by rw [W85 k_w hk, b32_1 ⟨rk.1, by omega⟩ wk_w]; exact decide_eq_true rfl⟩
            rw [decide_eq_true ck, bs]
            cases b32 (z_w.1 8 t_w) (m_w.1 85 k_w).toNatClampNeg <;> cases b32 made_w (m_w.1 85 k_w).toNatClampNeg <;> cases decide ((m_w.1 85 k_w).toNatClampNeg = (m_w.1 85 e).toNatClampNeg) <;> rfl
          · rw [decide_eq_false ck, Bool.false_and, Bool.false_and, Bool.false_and, Bool.false_and]
    have HD : HDw (HBw made_w (m_w.1 100) (m_w.1 85) (z_w.1 8)) E_w n_w m_w := fun s k_w hs hk => by
      refine ⟨fun q_w e he => ?_, fun q_w e he => ?_, fun p1_w p2_w e he => ⟨fun q_w => ?_, fun q_w => ?_, fun p3_w p4_w M_w u_w KM_w hu => ?_⟩⟩
      · unfold HBw
        rw [decide_eq_false (show ¬ m_w.1 100 (16 * s + k_w) ≠ -4 from fun r_w => r_w (n4_w.mp q_w)), Bool.false_and, Bool.false_and, Bool.false_and]
      · unfold HBw
        rw [mdbit k_w hk, decide_eq_false (show ¬ ¬ (m_w.1 84 (m_w.1 85 k_w).toNatClampNeg).toInt ≤ 0 from fun r_w => r_w q_w), Bool.false_and, Bool.and_false]
      · unfold HBw
        rw [decide_eq_false (show ¬ m_w.1 100 (16 * s + e) ≠ -4 from fun r_w => r_w (n4_w.mp q_w)), Bool.and_false, Bool.false_and, Bool.false_and]
      · unfold HBw
        rw [decide_eq_false (show ¬ m_w.1 85 e ≠ m_w.1 85 k_w from fun r_w => r_w (Int32.toInt_inj.mp q_w)), Bool.and_false, Bool.and_false]
      · rcases cell_w s e hs he with r_w | ⟨t_w, t0_w, t1_w, -⟩
        · exact absurd (n4_w.mpr r_w) p3_w
        · rw [t1_w] at hu
          have x := exq_w N' n2_w t0_w RR (KM_w.1 82 3 (by omega)) (fun j_w => KM_w.1 100 j_w (by omega)) (fun j_w => KM_w.1 85 j_w (by omega)) hu
          unfold HBw
          rw [x, mdbit k_w hk, decide_eq_true (show m_w.1 100 (16 * s + k_w) ≠ -4 from fun r_w => p1_w (n4_w.mpr r_w)), t1_w, on_n (by omega), decide_eq_true (show Int32.ofNat t_w ≠ -4 from on4_w (by omega)), decide_eq_true p2_w, decide_eq_true (show m_w.1 85 e ≠ m_w.1 85 k_w from fun r_w => p4_w (congrArg Int32.toInt r_w))]
          cases b32 (z_w.1 8 t_w) (m_w.1 85 k_w).toNatClampNeg <;> rfl
    obtain ⟨B_w, -⟩ := ft_n ha_w qE h16_w n2_w q40 (fun k_w hk => by rw [q3_w k_w, W85 k_w hk]; have := wr_w k_w hk; omega) HC ht
    obtain ⟨D_w, -⟩ := lb_n (by rw [← v0_w]; exact hE) h16_w n2_w (by rw [s4_w]; exact s3_w) (fun k_w hk => by have := wr_w k_w hk; omega) HD h_w
    obtain ⟨e0_w, e1_w, e2_w, e3_w⟩ := beq_w B_w D_w
    rw [← k5_w 4 (by decide), ← k5_w 5 (by decide), ← k5_w 6 (by decide), ← k5_w 7 (by decide)]
    exact ⟨e0_w, e1_w, e2_w, e3_w⟩
  · rw [s6_w] at hR
    exact absurd hR (by decide)
/-- taken back: both sides answer alike -/
theorem RQw.p11w {x1_w : Int32} {c_w m_w c' m' : dc_M} {v_w v' : Int32} (len_w : (c_w.2.2.2 10).2 = 512) (l13 : (c_w.2.2.2 13).2 = 64) (hr : ∀ k_w, k_w < 16 → 0 ≤ (m_w.1 86 k_w).toInt ∧ (m_w.1 86 k_w).toInt ≤ 1) (R_w : RQw c_w m_w) (f_w : d_X9_back 1 x1_w c_w = some (v_w, c')) (g_w : d_X10_back 82 x1_w m_w = some (v', m')) : v_w = v' ∧ RQw c' m' := by
  refine ⟨?_, RQw.q11w len_w l13 R_w f_w g_w⟩
  have ha_w := md41 R_w.1.1.1.2.2
  have C0_w := CQm.rqw R_w len_w l13
  unfold d_X9_back at f_w
  unfold d_X10_back at g_w
  rw [di_in, di_il, show (0 : Int64).toInt = 0 from rfl, show (3 : Int64).toInt = 3 from rfl] at g_w
  by_cases c1_w : 0 ≤ x1_w.toInt ∧ x1_w.toInt ≤ 3
  · rw [if_neg (show ¬ x1_w.toInt < 0 by omega), if_pos c1_w.2] at f_w
    rw [if_pos (fun q_w => (di_ine.mp q_w) c1_w)] at g_w
    cases hq : d_X9_isRight 1 c_w with
    | none => rw [hq] at f_w; cases f_w
    | some q_w =>
      cases hy : d_X10_layRight 82 m_w with
      | none => rw [hy] at g_w; cases g_w
      | some y =>
        rw [hq, Option.bind_some] at f_w
        rw [hy, Option.bind_some] at g_w
        obtain ⟨e, R2, e7_w, S_w, k11, C2_w, K2⟩ := RN.rgt len_w hr R_w.1.1 hq hy
        rw [e] at f_w
        by_cases c2_w : ¬ y.1.toInt = 0
        · rw [if_pos c2_w] at f_w g_w
          cases hf : d_X9_findClashes 1 q_w.2 with
          | none => rw [hf] at f_w; cases f_w
          | some q2_w =>
            cases hg : d_X10_layBacks 82 y.2 with
            | none => rw [hg] at g_w; cases g_w
            | some w_w =>
              rw [hf, Option.bind_some] at f_w
              rw [hg, Option.bind_some] at g_w
              obtain ⟨z1, z2, z3⟩ := fcl_keep hf
              have Q1_w := cq_X9_findClashes (cq_11 hq) (cq_X9_isRight C0_w hq) hf
              have h37 : y.2.1 82 37 = 1 := by
                have i3_w := ir_3 hq
                rcases S_w with ⟨-, -, n_w, -, -, -, -, s5, s6_w, -⟩ | ⟨w_w, -, -, -, -, s5, s6_w⟩
                · rcases s6_w with s6_w | s6_w
                  · exact absurd (by rw [← e, i3_w, s5, s6_w]; rfl) c2_w
                  · exact s6_w
                · exact absurd (by rw [← e, i3_w, s5]; rfl) c2_w
              have a7 : q2_w.2.2.1 1 7 = c_w.2.2.1 1 7 := by rw [z2]; exact e7_w
              have N2 : NR (c_w.2.2.1 1 7) q2_w y.2 := by
                have n_w := R2.2.1
                rw [e7_w] at n_w
                exact NR.eq n_w (fun i_w hi_w => funext (fun k_w => z1 _ k_w (by omega) (by omega))) (fun _ _ => rfl) (fun _ _ _ => rfl)
              have S2 : SP 4 (c_w.2.2.1 1 7) q2_w y.2 := SP.eq ha_w S_w (fun b_w k_w h1 h2 _ => z1 b_w k_w (by omega) (by omega)) (fun i_w hi_w _ => funext (fun k_w => z1 _ k_w (by omega) (by omega)))
              obtain ⟨w0_w, w1_w, w2_w, w3_w⟩ := ba_cmp ha_w Q1_w.2.2.1 z3 a7 N2 S2 h37 hg
              rw [show 1 + 11 = 12 from rfl, w0_w, w1_w, w2_w, w3_w] at f_w
              by_cases d0_w : x1_w.toInt = 0
              · rw [if_pos d0_w] at f_w
                rw [if_neg (fun q_w => q_w d0_w)] at g_w
                cases f_w
                cases g_w
                rfl
              · rw [if_neg d0_w] at f_w
                rw [if_pos d0_w] at g_w
                by_cases d1_w : x1_w.toInt = 1
                · rw [if_pos d1_w] at f_w
                  rw [if_neg (fun q_w => q_w d1_w)] at g_w
                  cases f_w
                  cases g_w
                  rfl
                · rw [if_neg d1_w] at f_w
                  rw [if_pos d1_w] at g_w
                  by_cases d2_w : x1_w.toInt = 2
                  · rw [if_pos d2_w] at f_w
                    rw [if_neg (fun q_w => q_w d2_w)] at g_w
                    cases f_w
                    cases g_w
                    rfl
                  · rw [if_neg d2_w] at f_w
                    rw [if_pos d2_w] at g_w
                    cases f_w
                    cases g_w
                    rfl
        · rw [if_neg c2_w] at f_w g_w
          cases f_w
          cases g_w
          rfl
  · rw [if_neg (fun q_w => q_w (di_ine.mpr c1_w))] at g_w
    by_cases d0_w : x1_w.toInt < 0
    · rw [if_pos d0_w] at f_w
      cases f_w
      cases g_w
      rfl
    · rw [if_neg d0_w, if_neg (show ¬ x1_w.toInt ≤ 3 by omega)] at f_w
      cases f_w
      cases g_w
      rfl
