/-! ===== judge: both sides answer alike ===== -/
theorem cub_0 {x : Int32} {c : dc_M} : (d_X8_isCube 15 x c).toInt = 0 ↔ ¬ (0 ≤ x.toInt ∧ x.toInt < (c.1 15 7).toInt) := by
  unfold d_X8_isCube
  by_cases h1 : x.toInt < 0
  · rw [if_pos h1]
    exact ⟨fun _ => by omega, fun _ => rfl⟩
  · rw [if_neg h1]
    by_cases h2 : (c.1 15 7).toInt ≤ x.toInt
    · rw [if_pos h2]
      exact ⟨fun _ => by omega, fun _ => rfl⟩
    · rw [if_neg h2]
      exact ⟨fun q_w => absurd q_w (by decide), fun q_w => absurd ⟨by omega, by omega⟩ q_w⟩
theorem hcl_0 {s n : Nat} {x y : Int32} {c : dc_M} (hn : (c.1 s 0).toInt = n) (n64 : n ≤ 64) (hy : 0 ≤ y.toInt ∧ y.toInt ≤ 40) : (d_X6_hasCells s x y c).toInt = 0 ↔ ¬ (0 ≤ x.toInt ∧ x.toInt + y.toInt ≤ n) := by
  unfold d_X6_hasCells
  have e_w : (c.1 s 0 - y).toInt = (n : Int) - y.toInt := by rw [Int32.toInt_sub, hn, sx_bm (by omega) (by omega)]
  by_cases h1 : x.toInt < 0
  · rw [if_pos h1]
    exact ⟨fun _ => by omega, fun _ => rfl⟩
  · rw [if_neg h1]
    by_cases h2 : (c.1 s 0 - y).toInt < x.toInt
    · rw [if_pos h2]
      exact ⟨fun _ => by omega, fun _ => rfl⟩
    · rw [if_neg h2]
      exact ⟨fun q_w => absurd q_w (by decide), fun q_w => absurd ⟨by omega, by omega⟩ q_w⟩
theorem made_0 {a_w : Nat} {x : Int32} {c : dc_M} (kd : KDb a_w c) : (d_X3_isMade a_w x c).toInt = 0 ↔ ¬ ((0 ≤ x.toInt ∧ x.toInt < (c.1 a_w 0).toInt) ∧ 0 < (c.1 (a_w + 2) x.toNatClampNeg).toInt) := by
  unfold d_X3_isMade
  by_cases h1 : 0 ≤ x.toInt ∧ x.toInt < (c.1 a_w 0).toInt
  · rw [if_neg (fun q_w => hw_0.mp q_w h1)]
    have xn := cl_n h1.1
    have kj := kd x.toNatClampNeg (by omega)
    by_cases h2 : (c.1 (a_w + 2) x.toNatClampNeg).toInt = 0
    · rw [if_pos h2]
      exact ⟨fun _ q_w => by omega, fun _ => rfl⟩
    · rw [if_neg h2]
      exact ⟨fun q_w => absurd q_w (by decide), fun q_w => absurd ⟨h1, by omega⟩ q_w⟩
  · rw [if_pos (hw_0.mpr h1)]
    exact ⟨fun _ q_w => h1 q_w.1, fun _ => rfl⟩
theorem own_0 {x : Int32} {m_w : dc_M} (e_w : 0 ≤ (m_w.1 82 0).toInt ∧ (m_w.1 82 0).toInt ≤ 6) : (d_X10_isOwn 82 x m_w).toInt = 0 ↔ ¬ ((0 ≤ x.toInt ∧ x.toInt < (m_w.1 82 0).toInt) ∧ 0 < (m_w.1 84 x.toNatClampNeg).toInt) := by
  unfold d_X10_isOwn
  rw [show 82 + 2 = 84 from rfl]
  by_cases h1 : 0 ≤ x.toInt ∧ x.toInt < (m_w.1 82 0).toInt
  · rw [if_neg (fun q_w => (iw_0 e_w).mp q_w h1)]
    by_cases h2 : (m_w.1 84 x.toNatClampNeg).toInt ≤ 0
    · rw [if_pos h2]
      exact ⟨fun _ q_w => by omega, fun _ => rfl⟩
    · rw [if_neg h2]
      exact ⟨fun q_w => absurd q_w (by decide), fun q_w => absurd ⟨h1, by omega⟩ q_w⟩
  · rw [if_pos ((iw_0 e_w).mpr h1)]
    exact ⟨fun _ q_w => h1 q_w.1, fun _ => rfl⟩
theorem fas_n {s : Nat} {x : Int32} {c : dc_M} (h_w : ¬ 0 ≤ (c.1 s 0).toInt) : d_X6_faultAs s x c = 1 := by
  unfold d_X6_faultAs d_X6_isNothing
  rw [if_neg h_w, if_neg (show ¬ (1 : Int32).toInt = 0 by decide)]
theorem fas_p {s : Nat} {x : Int32} {c : dc_M} (h_w : 0 ≤ (c.1 s 0).toInt) : d_X6_faultAs s x c = if ¬ x.toInt = (c.1 s 2).toInt then 3 else 0 := by
  unfold d_X6_faultAs d_X6_isNothing
  rw [if_pos h_w, if_pos (show (0 : Int32).toInt = 0 from rfl)]
theorem jb_w {x1_w v_w v' : Int32} {X_w : Int64} {c m_w c' m' : dc_M} (s47 : c.2.1 16 x1_w.toNatClampNeg = m_w.2.1 82 47) (s48 : c.2.1 17 x1_w.toNatClampNeg = m_w.2.1 82 48) (f_w : d_X9_judge_b161 1 x1_w X_w c = some (v_w, c')) (g_w : d_X10_judge_b204 82 X_w m_w = some (v', m')) : v_w = v' := by
  unfold d_X9_judge_b161 at f_w
  unfold d_X10_judge_b204 at g_w
  rw [show 1 + 14 + 1 = 16 from rfl, show 1 + 14 + 2 = 17 from rfl, s47, s48] at f_w
  by_cases c1_w : (lg_cmp (X_w &&& m_w.2.1 82 48) 0).toInt = 0
  · rw [if_pos c1_w] at f_w g_w
    by_cases c2_w : (lg_cmp (m_w.2.1 82 47 &&& (X_w ^^^ -1)) 0).toInt = 0
    · rw [if_pos c2_w] at f_w g_w
      cases f_w
      cases g_w
      rfl
    · rw [if_neg c2_w] at f_w g_w
      cases f_w
      cases g_w
      rfl
  · rw [if_neg c1_w] at f_w g_w
    cases f_w
    cases g_w
    rfl
/-- the cubes of a_w row, one after another -/
theorem jl_sim {j n Wn : Nat} {x1_w x2_w x4_w x5_w : Int32} {p_w p' : Int32 × dc_M} {c m_w : dc_M} (hj : x2_w.toInt = j) (j4_w : j < 4) (h5 : x5_w.toInt ≤ 30) (hW : c.1 (c.2.2.1 1 7) 0 = Int32.ofNat Wn) (hWm : m_w.1 82 0 = Int32.ofNat Wn) (w6_w : Wn ≤ 6) (h157 : (c.1 15 7).toInt = ((3 ^ Wn : Nat) : Int)) (n118 : m_w.1 118 j = c.1 (74 + 2 * j) 0) (hn : (c.1 (74 + 2 * j) 0).toInt = n) (n64 : n ≤ 64) (hc_w : ∀ x, x < n → c.1 (75 + 2 * j) x = m_w.1 119 (64 * j + x)) (s47 : c.2.1 16 x1_w.toNatClampNeg = m_w.2.1 82 47) (s48 : c.2.1 17 x1_w.toNatClampNeg = m_w.2.1 82 48) (f_w : d_X9_judge_l83 1 x1_w x4_w x5_w (74 + 2 * j) 0 0 c = some p_w) (g_w : d_X10_judge_l114 82 x2_w x4_w x5_w 0 0 m_w = some p') : p_w.1 = p'.1 := by
  unfold d_X9_judge_l83 at f_w
  unfold d_X10_judge_l114 at g_w
  have xn : x2_w.toNatClampNeg = j := by have := cl_n (x := x2_w) (by omega); omega
  have b1 := Int32.le_toInt x4_w
  have b2 := Int32.toInt_lt x4_w
  refine dc_lp_sim (s := ((0 : Int64), (0 : Int32))) (t := ((0 : Int64), (0 : Int32))) (fun s t : Int64 × Int32 => s = t ∧ 0 ≤ s.2.toInt ∧ s.2.toInt ≤ 31 ∧ (s.2.toInt ≠ 0 → 0 ≤ x4_w.toInt)) (fun p_w p' : Int32 × dc_M => p_w.1 = p'.1) (fun s t y z_w hR hf hg => ?_) ⟨rfl, by decide, by decide, fun q_w => absurd rfl q_w⟩ f_w g_w
  obtain ⟨rfl, r0, r1_w, r2⟩ := hR
  obtain ⟨X_w, x10⟩ := s
  have r0 : 0 ≤ x10.toInt := r0
  have r1_w : x10.toInt ≤ 31 := r1_w
  have r2 : x10.toInt ≠ 0 → 0 ≤ x4_w.toInt := r2
  have hf : d_X9_judge_l83b 1 x1_w x4_w x5_w (74 + 2 * j) X_w x10 c = some y := hf
  have hg : d_X10_judge_l114b 82 x2_w x4_w x5_w X_w x10 m_w = some z_w := hg
  unfold d_X9_judge_l83b at hf
  unfold d_X10_judge_l114b at hg
  by_cases c1_w : x5_w.toInt ≤ x10.toInt
  · rw [if_pos c1_w] at hf hg
    cases hp : d_X9_judge_b161 1 x1_w X_w c with
    | none => rw [hp] at hf; cases hf
    | some p_w =>
      cases hq : d_X10_judge_b204 82 X_w m_w with
      | none => rw [hq] at hg; cases hg
      | some q_w =>
        rw [hp] at hf
        rw [hq] at hg
        obtain ⟨p1_w, p2_w⟩ := p_w
        obtain ⟨q1_w, q2_w⟩ := q_w
        exact Or.inr ⟨(p1_w, p2_w), (q1_w, q2_w), (Option.some.inj hf).symm, (Option.some.inj hg).symm, jb_w s47 s48 hp hq⟩
  · rw [if_neg c1_w] at hf hg
    have hy : (x10 + 1).toInt = x10.toInt + 1 := i1 (by omega) (Int32.le_toInt _)
    have HC := hcl_0 (x := x4_w) (y := x10 + 1) hn n64 ⟨by omega, by omega⟩
    have IN_w : (d_X10_in (Int32.toInt64 x4_w + Int32.toInt64 x10) (0 : Int64) (Int32.toInt64 (m_w.1 118 j - 1)) m_w).toInt = 0 ↔ ¬ (0 ≤ x4_w.toInt ∧ x4_w.toInt + (x10 + 1).toInt ≤ n) := by
      have e1_w : (m_w.1 118 j - 1).toInt = (n : Int) - 1 := by rw [n118, Int32.toInt_sub, hn, show (1 : Int32).toInt = 1 from rfl, sx_bm (by omega) (by omega)]
      have e2_w : (Int32.toInt64 x4_w + Int32.toInt64 x10).toInt = x4_w.toInt + x10.toInt := by rw [Int64.toInt_add, di_il, di_il, sx_bm64 (by omega) (by omega)]
      rw [di_in, di_ine, e2_w, di_il, e1_w, show (0 : Int64).toInt = 0 from rfl, hy]
      by_cases z0 : x10.toInt = 0
      · omega
      · have := r2 z0
        omega
    rw [show 82 + 36 = 118 from rfl, show 82 + 37 = 119 from rfl, xn] at hg
    by_cases c2_w : 0 ≤ x4_w.toInt ∧ x4_w.toInt + (x10 + 1).toInt ≤ n
    · rw [if_pos (fun q_w => HC.mp q_w c2_w)] at hf
      rw [if_pos (fun q_w => IN_w.mp q_w c2_w)] at hg
      obtain ⟨k_w, hk⟩ : ∃ k_w : Nat, x4_w.toInt + x10.toInt = k_w := ⟨(x4_w.toInt + x10.toInt).toNat, by omega⟩
      have ik : (x4_w + x10).toNatClampNeg = k_w := by
        have e_w : (x4_w + x10).toInt = k_w := by rw [Int32.toInt_add, sx_bm (by omega) (by omega)]; exact hk
        have := cl_n (x := x4_w + x10) (by omega)
        omega
      have i64_w : ((64 : Int32) * x2_w + x4_w + x10).toNatClampNeg = 64 * j + k_w := by
        have a1_w : ((64 : Int32) * x2_w).toInt = 64 * x2_w.toInt := by rw [Int32.toInt_mul, show (64 : Int32).toInt = 64 from rfl, sx_bm (by omega) (by omega)]
        have a2 : ((64 : Int32) * x2_w + x4_w).toInt = 64 * x2_w.toInt + x4_w.toInt := by rw [Int32.toInt_add, a1_w, sx_bm (by omega) (by omega)]
        have a3 : ((64 : Int32) * x2_w + x4_w + x10).toInt = 64 * x2_w.toInt + x4_w.toInt + x10.toInt := by rw [Int32.toInt_add, a2, sx_bm (by omega) (by omega)]
        have := cl_n (x := (64 : Int32) * x2_w + x4_w + x10) (by omega)
        omega
      rw [ik, show 74 + 2 * j + 1 = 75 + 2 * j by omega, hc_w k_w (by omega), show 1 + 14 = 15 from rfl] at hf
      rw [i64_w] at hg
      obtain ⟨V, hV⟩ : ∃ V, m_w.1 119 (64 * j + k_w) = V := ⟨_, rfl⟩
      rw [hV] at hf hg
      cases hq : d_X10_cubeAll 82 m_w with
      | none => rw [hq] at hg; cases hg
      | some q1_w =>
        rw [hq, Option.bind_some] at hg
        have qa := ca_w hWm w6_w hq
        have p3_w := lc_p3 w6_w
        obtain ⟨T, hT_w⟩ : ∃ T : Nat, 3 ^ Wn = T := ⟨_, rfl⟩
        rw [hT_w] at qa p3_w h157
        have CB := cub_0 (x := V) (c := c)
        have IN2 : (d_X10_in (Int32.toInt64 V) (0 : Int64) (Int32.toInt64 (q1_w - 1)) m_w).toInt = 0 ↔ ¬ (0 ≤ V.toInt ∧ V.toInt < (c.1 15 7).toInt) := by
          have e1_w : (q1_w - 1).toInt = (T : Int) - 1 := by rw [Int32.toInt_sub, qa, show (1 : Int32).toInt = 1 from rfl, sx_bm (by omega) (by omega)]
          rw [di_in, di_ine, di_il, di_il, e1_w, h157, show (0 : Int64).toInt = 0 from rfl]
          omega
        by_cases c3_w : 0 ≤ V.toInt ∧ V.toInt < (c.1 15 7).toInt
        · rw [if_pos (fun q_w => CB.mp q_w c3_w)] at hf
          rw [if_pos (fun q_w => IN2.mp q_w c3_w)] at hg
          rw [h157] at c3_w
          have vn := cl_n c3_w.1
          have vE : V = Int32.ofNat V.toNatClampNeg := Int32.toInt_inj.mp (by rw [mk_i (by omega)]; omega)
          cases hl : d_X8_levelsIn V (c.1 (c.2.2.1 1 7) 0) c with
          | none => rw [hl] at hf; cases hf
          | some y1 =>
            cases ho : d_X10_levelsOf 82 V m_w with
            | none => rw [ho] at hg; cases hg
            | some y2 =>
              rw [hl, Option.bind_some] at hf
              rw [ho, Option.bind_some] at hg
              have e_w : y1 = y2 := lv_uq (li_run (c := V.toNatClampNeg) w6_w (by omega) (by rw [← vE, ← hW]; exact hl)) (lo_run (c := V.toNatClampNeg) hWm w6_w (by omega) (by rw [← vE]; exact ho))
              exact Or.inl ⟨(X_w ||| y1, x10 + 1), (X_w ||| y2, x10 + 1), (Option.some.inj hf).symm, (Option.some.inj hg).symm, by rw [e_w], by show 0 ≤ (x10 + 1).toInt; omega, by show (x10 + 1).toInt ≤ 31; omega, fun _ => c2_w.1⟩
        · rw [if_neg (fun q_w => q_w (CB.mpr c3_w))] at hf
          rw [if_neg (fun q_w => q_w (IN2.mpr c3_w))] at hg
          exact Or.inr ⟨_, _, (Option.some.inj hf).symm, (Option.some.inj hg).symm, rfl⟩
    · rw [if_neg (fun q_w => q_w (HC.mpr c2_w))] at hf
      rw [if_neg (fun q_w => q_w (IN_w.mpr c2_w))] at hg
      exact Or.inr ⟨_, _, (Option.some.inj hf).symm, (Option.some.inj hg).symm, rfl⟩
/-- how many cubes there are, once sums are gathered -/
theorem ms_7 {a_w Wn : Nat} {z_w m_w : dc_M} (K_w : MSm z_w) (k13 : z_w.1 1 13 ≠ 0) (a7 : z_w.2.2.1 1 7 = a_w) (hW : (z_w.1 a_w 0).toInt = Wn) (w6_w : Wn ≤ 6) (S_w : SP 4 a_w z_w m_w) (hR : m_w.1 82 37 = 1) : (z_w.1 15 7).toInt = ((3 ^ Wn : Nat) : Int) := by
  obtain ⟨-, c0_w, c1_w, k2_w, k4_w, k5_w, k6_w, k7_w⟩ := K_w k13
  rw [a7] at k4_w
  rcases S_w with ⟨s1_w, s2_w, n, ⟨n1_w, n2_w⟩, s3_w, -⟩ | ⟨v_w, -, -, -, -, -, s6_w⟩
  · obtain ⟨-, -, G_w⟩ := ga_run n2_w (by rw [k2_w 4 0 (by decide) (by decide) (by omega)]; exact s3_w) hW w6_w k4_w
    rw [← k7_w]
    exact G_w
  · rw [s6_w] at hR
    exact absurd hR (by decide)
/-- judge: both sides answer alike -/
theorem RQw.p15w {x1_w x2_w x3 x4_w x5_w : Int32} {c m_w c' m' : dc_M} {v_w v' : Int32} (len_w : (c.2.2.2 10).2 = 512) (l13 : (c.2.2.2 13).2 = 64) (hr : ∀ k_w, k_w < 16 → 0 ≤ (m_w.1 86 k_w).toInt ∧ (m_w.1 86 k_w).toInt ≤ 1) (h40 : ∀ j, j < 4 → c.2.2.1 40 j = 74 + 2 * j) (R_w : RQw c m_w) (f_w : d_X9_judge 1 x1_w x2_w x3 x4_w x5_w c = some (v_w, c')) (g_w : d_X10_judge 82 x1_w x2_w x3 x4_w x5_w m_w = some (v', m')) : v_w = v' ∧ RQw c' m' := by
  refine ⟨?_, RQw.q15w len_w l13 R_w f_w g_w⟩
  have ha_w := md41 R_w.1.1.1.2.2
  have C0_w := CQm.rqw R_w len_w l13
  have N0 : NR (c.2.2.1 1 7) c m_w := R_w.1.1.2.1
  have n0_w : c.1 (c.2.2.1 1 7) 0 = m_w.1 82 0 := N0.1.1
  have n6_w : 0 ≤ (c.1 (c.2.2.1 1 7) 0).toInt ∧ (c.1 (c.2.2.1 1 7) 0).toInt ≤ 6 := N0.1.2.1
  have e6_w : 0 ≤ (m_w.1 82 0).toInt ∧ (m_w.1 82 0).toInt ≤ 6 := by rw [← n0_w]; exact n6_w
  have kd : KDb (c.2.2.1 1 7) c := N0.2.2.2.2.2
  have nk := N0.1.2.2
  have MD := made_0 (x := x1_w) kd
  have OW := own_0 (x := x1_w) e6_w
  unfold d_X9_judge at f_w
  unfold d_X10_judge at g_w
  rw [shk_is, shk_ln] at f_w
  rw [di_in, di_in, di_in, di_il, di_il, di_il, show (0 : Int64).toInt = 0 from rfl, show (3 : Int64).toInt = 3 from rfl, show (2 : Int64).toInt = 2 from rfl, show (30 : Int64).toInt = 30 from rfl] at g_w
  by_cases c0_w : (0 ≤ x1_w.toInt ∧ x1_w.toInt < (c.1 (c.2.2.1 1 7) 0).toInt) ∧ 0 < (c.1 (c.2.2.1 1 7 + 2) x1_w.toNatClampNeg).toInt
  · have x1n := cl_n c0_w.1.1
    have c0' : (0 ≤ x1_w.toInt ∧ x1_w.toInt < (m_w.1 82 0).toInt) ∧ 0 < (m_w.1 84 x1_w.toNatClampNeg).toInt := by
      rw [← n0_w, ← (nk x1_w.toNatClampNeg (by omega)).2]
      exact c0_w
    rw [if_neg (fun q_w => MD.mp q_w c0_w)] at f_w
    rw [if_neg (fun q_w => OW.mp q_w c0')] at g_w
    by_cases d1_w : 0 ≤ x2_w.toInt ∧ x2_w.toInt ≤ 3
    · rw [if_neg (fun q_w => di_ine.mp q_w d1_w)] at f_w g_w
      by_cases d2_w : 0 ≤ x3.toInt ∧ x3.toInt ≤ 2
      · rw [if_neg (fun q_w => di_ine.mp q_w d2_w)] at f_w g_w
        by_cases d3_w : 0 ≤ x5_w.toInt ∧ x5_w.toInt ≤ 30
        · rw [if_neg (show ¬ x5_w.toInt < 0 by omega), if_pos d3_w.2] at f_w
          rw [if_pos (fun q_w => di_ine.mp q_w d3_w)] at g_w
          unfold d_X9_canBeMade at f_w
          cases hq : d_X9_isRight 1 c with
          | none => rw [hq] at f_w; cases f_w
          | some q_w =>
            cases hy : d_X10_layRight 82 m_w with
            | none => rw [hy] at g_w; cases g_w
            | some y =>
              rw [hq, Option.bind_some] at f_w
              rw [hy, Option.bind_some] at g_w
              obtain ⟨e_w, R2, e7_w, S_w, k11, C2_w, K2⟩ := RN.rgt len_w hr R_w.1.1 hq hy
              rw [e_w] at f_w
              by_cases c2_w : ¬ y.1.toInt = 0
              · rw [if_pos c2_w] at f_w g_w
                cases hf : d_X9_gatherSums 1 q_w.2 with
                | none => rw [hf] at f_w; cases f_w
                | some q2_w =>
                  cases hg : d_X10_layAims 82 x1_w y.2 with
                  | none => rw [hg] at g_w; cases g_w
                  | some w_w =>
                    rw [hf, Option.bind_some] at f_w
                    rw [hg, Option.bind_some] at g_w
                    obtain ⟨z1, z2, z3⟩ := gsm_keep hf
                    have Q1_w := cq_X9_gatherSums (cq_11 hq) (cq_X9_isRight C0_w hq) hf
                    have h37 : y.2.1 82 37 = 1 := by
                      have i3_w := ir_3 hq
                      rcases S_w with ⟨-, -, n, -, -, -, -, s5, s6_w, -⟩ | ⟨w_w, -, -, -, -, s5, s6_w⟩
                      · rcases s6_w with s6_w | s6_w
                        · exact absurd (by rw [← e_w, i3_w, s5, s6_w]; rfl) c2_w
                        · exact s6_w
                      · exact absurd (by rw [← e_w, i3_w, s5]; rfl) c2_w
                    have a7 : q2_w.2.2.1 1 7 = c.2.2.1 1 7 := by rw [z2]; exact e7_w
                    have N2 : NR (c.2.2.1 1 7) q2_w y.2 := by
                      have n := R2.2.1
                      rw [e7_w] at n
                      exact NR.eq n (fun i_w hi_w => funext (fun k_w => z1 _ k_w (by omega) (by omega))) (fun _ _ => rfl) (fun _ _ _ => rfl)
                    have S2 : SP 4 (c.2.2.1 1 7) q2_w y.2 := SP.eq ha_w S_w (fun b_w k_w h1 h2 _ => z1 b_w k_w (by omega) (by omega)) (fun i_w hi_w _ => funext (fun k_w => z1 _ k_w (by omega) (by omega)))
                    have hx : 0 ≤ x1_w.toInt ∧ x1_w.toInt < (q2_w.1 (c.2.2.1 1 7) 0).toInt := by
                      rw [N2.1.1, K2 82 0 (by unfold krc; omega), ← n0_w]
                      exact c0_w.1
                    obtain ⟨w1_w, w2_w⟩ := ai_cmp Q1_w.2.2.2 z3 a7 N2 S2 h37 hx hg
                    have HU : (d_X8_hasUnlikeAims (1 + 14) x1_w q2_w).toInt = 0 ↔ (lg_cmp (w_w.2.1 82 47 &&& w_w.2.1 82 48) 0).toInt = 0 := by
                      unfold d_X8_hasUnlikeAims
                      rw [show 1 + 14 + 1 = 16 from rfl, show 1 + 14 + 2 = 17 from rfl, w1_w, w2_w]
                      by_cases u_w : (lg_cmp (w_w.2.1 82 47 &&& w_w.2.1 82 48) 0).toInt = 0
                      · rw [if_pos u_w]
                        exact ⟨fun _ => u_w, fun _ => rfl⟩
                      · rw [if_neg u_w]
                        exact ⟨fun q_w => absurd q_w (by decide), fun q_w => absurd q_w u_w⟩
                    have K3 : kr m_w w_w := kr_X10_layAims K2 hg
                    have c22 : q2_w.2.2 = c.2.2 := z2.trans C2_w.2.2.2.1
                    have x2n := cl_n d1_w.1
                    obtain ⟨j, hj⟩ : ∃ j : Nat, x2_w.toNatClampNeg = j := ⟨_, rfl⟩
                    have j4_w : j < 4 := by omega
                    have s40 : q2_w.2.2.1 (1 + 39) x2_w.toNatClampNeg = 74 + 2 * j := by
                      rw [c22, hj]
                      exact h40 j j4_w
                    have sc_w : ∀ b_w k_w, 74 ≤ b_w → b_w ≤ 81 → q2_w.1 b_w k_w = c.1 b_w k_w := fun b_w k_w b1 b2 => (z1 b_w k_w (by omega) (by omega)).trans (C2_w.2.2.2.2.2.2 b_w k_w (by omega))
                    have sm_w : ∀ b_w k_w, 117 ≤ b_w → b_w ≤ 119 → w_w.1 b_w k_w = m_w.1 b_w k_w := fun b_w k_w b1 b2 => K3 b_w k_w (by unfold krc; omega)
                    by_cases c5_w : (lg_cmp (w_w.2.1 82 47 &&& w_w.2.1 82 48) 0).toInt = 0
                    · rw [if_neg (fun q_w => q_w (HU.mpr c5_w)), Option.bind_some, if_pos (show ¬ ((1 : Int32), q2_w).1.toInt = 0 from (by decide : ¬ (1 : Int32).toInt = 0))] at f_w
                      have f_w : (if (d_X6_faultAs (q2_w.2.2.1 (1 + 39) x2_w.toNatClampNeg) x3 q2_w).toInt = 0 then d_X9_judge_l83 1 x1_w x4_w x5_w (q2_w.2.2.1 (1 + 39) x2_w.toNatClampNeg) 0 0 q2_w else some (-10 - d_X6_faultAs (q2_w.2.2.1 (1 + 39) x2_w.toNatClampNeg) x3 q2_w, q2_w)) = some (v_w, c') := f_w
                      rw [s40] at f_w
                      rw [if_pos c5_w, show 82 + 35 = 117 from rfl, hj, sm_w 117 j (by decide) (by decide)] at g_w
                      rcases R_w.1.2.2 j j4_w with ⟨t1_w, t2_w⟩ | ⟨t1_w, t2_w, t3_w, t4_w, t5_w⟩
                      · rw [fas_n (by rw [sc_w (74 + 2 * j) 0 (by omega) (by omega), t1_w]; decide), if_neg (show ¬ (1 : Int32).toInt = 0 by decide)] at f_w
                        rw [t2_w, show (-4 : Int32).toInt = -4 from rfl, if_neg (show ¬ (-4 : Int) = x3.toInt by omega), if_neg (fun q_w => q_w rfl)] at g_w
                        cases f_w
                        cases g_w
                        decide
                      · have nn : (q2_w.1 (74 + 2 * j) 0).toInt = (m_w.1 118 j).toInt := by rw [sc_w (74 + 2 * j) 0 (by omega) (by omega), t1_w]
                        rw [fas_p (by omega), sc_w (74 + 2 * j) 2 (by omega) (by omega), t3_w] at f_w
                        by_cases c6_w : x3.toInt = (m_w.1 117 j).toInt
                        · rw [if_neg (show ¬ ¬ x3.toInt = (m_w.1 117 j).toInt from fun q_w => q_w c6_w), if_pos (show (0 : Int32).toInt = 0 from rfl)] at f_w
                          rw [if_pos c6_w.symm] at g_w
                          obtain ⟨Wn, hW⟩ : ∃ Wn : Nat, (c.1 (c.2.2.1 1 7) 0).toInt = Wn := ⟨(c.1 (c.2.2.1 1 7) 0).toInt.toNat, by omega⟩
                          have cW : c.1 (c.2.2.1 1 7) 0 = Int32.ofNat Wn := Int32.toInt_inj.mp (by rw [mk_i (by omega)]; exact hW)
                          have yW : w_w.1 82 0 = Int32.ofNat Wn := by rw [K3 82 0 (by unfold krc; omega), ← n0_w]; exact cW
                          have qW : q2_w.1 (c.2.2.1 1 7) 0 = Int32.ofNat Wn := by rw [N2.1.1, K2 82 0 (by unfold krc; omega), ← n0_w]; exact cW
                          have h157 := ms_7 (Wn := Wn) Q1_w.2.2.2 z3 a7 (by rw [qW]; exact mk_i (by omega)) (by omega) S2 h37
                          obtain ⟨n, hn⟩ : ∃ n : Nat, (m_w.1 118 j).toInt = n := ⟨(m_w.1 118 j).toInt.toNat, by omega⟩
                          exact jl_sim (j := j) (n := n) (Wn := Wn) (by omega) j4_w d3_w.2 (by rw [a7]; exact qW) yW (by omega) h157 (by rw [sm_w 118 j (by decide) (by decide), sc_w (74 + 2 * j) 0 (by omega) (by omega)]; exact t1_w.symm) (by omega) (by omega) (fun x hx => by rw [sc_w (75 + 2 * j) x (by omega) (by omega), sm_w 119 (64 * j + x) (by decide) (by decide)]; exact t5_w x (by omega)) w1_w w2_w f_w g_w
                        · rw [if_pos c6_w, if_neg (show ¬ (3 : Int32).toInt = 0 by decide)] at f_w
                          rw [if_neg (fun q_w => c6_w q_w.symm), if_pos (show ¬ (m_w.1 117 j).toInt = -4 by omega)] at g_w
                          cases f_w
                          cases g_w
                          decide
                    · rw [if_pos (fun q_w => c5_w (HU.mp q_w)), Option.bind_some, if_neg (show ¬ ¬ ((0 : Int32), q2_w).1.toInt = 0 from fun q_w => q_w rfl)] at f_w
                      rw [if_neg c5_w] at g_w
                      cases f_w
                      cases g_w
                      rfl
              · rw [if_neg c2_w, Option.bind_some, if_neg (show ¬ ¬ ((0 : Int32), q_w.2).1.toInt = 0 from fun q_w => q_w rfl)] at f_w
                rw [if_neg c2_w] at g_w
                cases f_w
                cases g_w
                rfl
        · rw [if_neg (fun q_w => q_w (di_ine.mpr d3_w))] at g_w
          cases g_w
          by_cases d4_w : x5_w.toInt < 0
          · rw [if_pos d4_w] at f_w
            cases f_w
            rfl
          · rw [if_neg d4_w, if_neg (show ¬ x5_w.toInt ≤ 30 by omega)] at f_w
            cases f_w
            rfl
      · rw [if_pos (di_ine.mpr d2_w)] at f_w g_w
        cases f_w
        cases g_w
        rfl
    · rw [if_pos (di_ine.mpr d1_w)] at f_w g_w
      cases f_w
      cases g_w
      rfl
  · rw [if_pos (MD.mpr c0_w)] at f_w
    rw [if_pos (OW.mpr (fun q_w => c0_w (by
      have x1n := cl_n q_w.1.1
      rw [n0_w, (nk x1_w.toNatClampNeg (by rw [n0_w]; omega)).2]
      exact q_w)))] at g_w
    cases f_w
    cases g_w
    rfl
