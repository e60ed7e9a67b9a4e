/-! ===== stuck: the states of both sides, and what is told of them ===== -/
theorem ck_sq {a : Nat} {c_w m_w : dc_M} {y_w : Int32 × dc_M} (ha_w : a = 41 ∨ a = 52) (ha7 : c_w.2.2.1 1 7 = a) (K_w : CK c_w) (hk : c_w.1 1 11 ≠ 0) (N_w : NR a c_w m_w) (h_w : d_X10_layStates 82 m_w = some y_w) : FM m_w y_w.2 ∧ ((y_w.1 = 1 ∧ c_w.1 4 1 = 0 ∧ ∃ n_w : Nat, (1 ≤ n_w ∧ n_w ≤ 200) ∧ (c_w.1 4 0).toInt = n_w ∧ y_w.2.1 82 32 = c_w.1 4 0 ∧ (∀ i_w k_w : Nat, i_w < n_w → (k_w : Int) < (c_w.1 a 1).toInt → y_w.2.1 100 (16 * i_w + k_w) = -4 ∨ ∃ t_w, t_w < n_w ∧ y_w.2.1 100 (16 * i_w + k_w) = Int32.ofNat t_w ∧ c_w.1 9 (16 * i_w + k_w) = Int32.ofNat t_w) ∧ RW (c_w.1 a 1).toInt (c_w.1 (a + 3)) (y_w.2.1 100) (c_w.1 6) (c_w.1 8) (c_w.1 4 2) n_w) ∨ (y_w.1 ≠ 1 ∧ c_w.1 4 1 ≠ 0)) := by
  obtain ⟨c0, c1_w, k1_w, k2_w, k3_w, k4_w⟩ := K_w hk
  rw [ha7] at k1_w k3_w
  have md : cs_md 41 52 := Or.inl ⟨rfl, rfl⟩
  have b80 : ∀ {c2_w w : dc_M}, d_X7_explore_b80 4 a c2_w = some w → ∀ b k_w, b ≠ 7 → ¬ (b = 4 ∧ k_w = 3) → w.1 b k_w = c2_w.1 b k_w := fun {c2_w w} hw b k_w hb_w hk => by
    unfold d_X7_explore_b80 at hw
    split at hw
    · have hw := Option.some.inj hw
      rw [← hw]
      exact wi_k hk
    · cases ht : d_X7_tellLevels 4 a c2_w with
      | none => rw [ht] at hw; cases hw
      | some t_w =>
        rw [ht, Option.bind_some] at hw
        obtain ⟨-, f1_w, -⟩ := fl_X7_tellLevels (a := 41) (b := 52) (c0 := c2_w) rfl ⟨md, fun _ _ _ => rfl, rfl⟩ ht
        split at hw
        · have hw := Option.some.inj hw
          rw [← hw, wi_k hk]
          exact f1_w b k_w hb_w
        · have hw := Option.some.inj hw
          rw [← hw, wi_k hk]
          exact f1_w b k_w hb_w
  rcases ex_sim (x := 4) (Or.inl rfl) ha_w (N_w.nl.e8 k1_w) k2_w k3_w h_w with ⟨n_w, c2_w, I_w, q1_w, hb_w⟩ | ⟨v_w, c2_w, F_w, q1_w, hb_w⟩
  · obtain ⟨⟨n1_w, n2_w⟩, g0, g32, g1, g33, Q_w, RR, fC_w, fM_w⟩ := I_w
    obtain ⟨Q1_w, Q2_w, Q3, Q4, Q5, Q6_w⟩ := Q_w
    unfold d_X7_explore_b68 at hb_w
    rw [if_pos (by rw [g1]; rfl)] at hb_w
    have e_w : ∀ b k_w, 4 ≤ b → b ≤ 10 → b ≠ 7 → ¬ (b = 4 ∧ k_w = 3) → ¬ (b = 4 ∧ k_w = 11) → c_w.1 b k_w = c2_w.1 b k_w := fun b k_w b1 b2 b3 b4 b5 => (k4_w b k_w b1 b2 b5).symm.trans (b80 hb_w b k_w b3 b4)
    have e0_w : c0.1 a = c_w.1 a := k1_w 0 (by decide) (by decide)
    rw [e0_w] at Q4 RR
    rw [k1_w 3 (by decide) (by decide)] at RR
    refine ⟨fM_w, Or.inl ⟨q1_w, ?_, n_w, ⟨n1_w, n2_w⟩, ?_, ?_, fun i_w k_w hi_w hk => ?_, ?_⟩⟩
    · rw [e_w 4 1 (by decide) (by decide) (by decide) (by decide) (by decide)]; exact g1
    · rw [e_w 4 0 (by decide) (by decide) (by decide) (by decide) (by decide)]; exact g0
    · rw [e_w 4 0 (by decide) (by decide) (by decide) (by decide) (by decide)]; exact g32
    · rw [e_w 9 (16 * i_w + k_w) (by decide) (by decide) (by decide) (by omega) (by omega)]
      exact Q4 i_w k_w hi_w hk (by unfold dn; omega)
    · rw [show c_w.1 6 = c2_w.1 6 from funext (fun k_w => e_w 6 k_w (by decide) (by decide) (by decide) (by omega) (by omega)), show c_w.1 8 = c2_w.1 8 from funext (fun k_w => e_w 8 k_w (by decide) (by decide) (by decide) (by omega) (by omega)), e_w 4 2 (by decide) (by decide) (by decide) (by decide) (by decide)]
      exact RR
  · obtain ⟨f1_w, f2_w, f3_w, f4_w, fC_w, fM_w⟩ := F_w
    unfold d_X7_explore_b68 at hb_w
    rw [if_neg (by rw [f1_w]; rcases f2_w with q_w | q_w <;> rw [q_w] <;> decide)] at hb_w
    refine ⟨fM_w, Or.inr ⟨?_, ?_⟩⟩
    · rw [q1_w]
      rcases f2_w with q_w | q_w <;> rw [q_w] <;> decide
    · rw [← k4_w 4 1 (by decide) (by decide) (by decide), b80 hb_w 4 1 (by decide) (by decide), wi_k (by omega), f1_w]
      rcases f2_w with q_w | q_w <;> rw [q_w] <;> decide
theorem en_run {n_w : Nat} {m_w : dc_M} {q_w : Int32} (n2_w : n_w ≤ 200) (hn : (m_w.1 4 0).toInt = n_w) (h_w : d_X7_ends 4 m_w = some q_w) : q_w = Int32.ofNat (ctw (fun i_w => decide (m_w.1 6 i_w = 0)) n_w) := by
  unfold d_X7_ends d_X7_ends_l4 at h_w
  refine dc_lp_inv (s := ((0 : Int32), (0 : Int32))) (fun z_w : Int32 × Int32 => ∃ i_w, i_w ≤ n_w ∧ z_w.2 = Int32.ofNat i_w ∧ z_w.1 = Int32.ofNat (ctw (fun i_w => decide (m_w.1 6 i_w = 0)) i_w)) (fun q_w : Int32 => q_w = Int32.ofNat (ctw (fun i_w => decide (m_w.1 6 i_w = 0)) n_w)) (fun z_w z' hI hz => ?_) (fun z_w q_w hI hz => ?_) ⟨0, Nat.zero_le _, rfl, rfl⟩ h_w
  · obtain ⟨i_w, i1_w, i2_w, i3_w⟩ := hI
    obtain ⟨x1, x2_w⟩ := z_w
    have i2_w : x2_w = Int32.ofNat i_w := i2_w
    have i3_w : x1 = Int32.ofNat (ctw (fun i_w => decide (m_w.1 6 i_w = 0)) i_w) := i3_w
    have hz : d_X7_ends_l4b 4 x1 x2_w m_w = some (.inl z') := hz
    unfold d_X7_ends_l4b at hz
    have xt : x2_w.toInt = i_w := by rw [i2_w]; exact mk_i (by omega)
    have xn : x2_w.toNatClampNeg = i_w := by rw [i2_w]; exact on_n (by omega)
    rw [hn, xt, xn, show 4 + 2 = 6 from rfl] at hz
    by_cases c1_w : (n_w : Int) ≤ i_w
    · rw [if_pos c1_w] at hz; cases hz
    · rw [if_neg c1_w] at hz
      have cb := ctw_le (p := fun i_w => decide (m_w.1 6 i_w = 0)) i_w
      have e_w : ctw (fun i_w => decide (m_w.1 6 i_w = 0)) (i_w + 1) = ctw (fun i_w => decide (m_w.1 6 i_w = 0)) i_w + (if decide (m_w.1 6 i_w = 0) = true then 1 else 0) := rfl
      by_cases c2_w : (m_w.1 6 i_w).toInt = 0
      · rw [if_neg (fun r_w => r_w c2_w)] at hz
        have hz := Sum.inl.inj (Option.some.inj hz)
        rw [← hz]
        refine ⟨i_w + 1, by omega, by show x2_w + 1 = _; rw [i2_w]; exact on_1 (by omega), ?_⟩
        show x1 + 1 = _
        rw [e_w, decide_eq_true (show m_w.1 6 i_w = 0 from Int32.toInt_inj.mp c2_w), if_pos (show true = true from rfl), i3_w]
        exact on_1 (by omega)
      · rw [if_pos c2_w] at hz
        have hz := Sum.inl.inj (Option.some.inj hz)
        rw [← hz]
        refine ⟨i_w + 1, by omega, by show x2_w + 1 = _; rw [i2_w]; exact on_1 (by omega), ?_⟩
        show x1 = _
        rw [e_w, decide_eq_false (show ¬ m_w.1 6 i_w = 0 from fun r_w => c2_w (by rw [r_w]; rfl)), if_neg (show ¬ false = true by decide), i3_w, Nat.add_zero]
  · obtain ⟨i_w, i1_w, i2_w, i3_w⟩ := hI
    obtain ⟨x1, x2_w⟩ := z_w
    have i2_w : x2_w = Int32.ofNat i_w := i2_w
    have i3_w : x1 = Int32.ofNat (ctw (fun i_w => decide (m_w.1 6 i_w = 0)) i_w) := i3_w
    have hz : d_X7_ends_l4b 4 x1 x2_w m_w = some (.inr q_w) := hz
    unfold d_X7_ends_l4b at hz
    have xt : x2_w.toInt = i_w := by rw [i2_w]; exact mk_i (by omega)
    rw [hn, xt] at hz
    by_cases c1_w : (n_w : Int) ≤ i_w
    · rw [if_pos c1_w] at hz
      have hz := Sum.inr.inj (Option.some.inj hz)
      rw [← hz]
      have ie : i_w = n_w := by omega
      rw [ie] at i3_w
      exact i3_w
    · rw [if_neg c1_w] at hz
      split at hz
      · cases hz
      · cases hz
theorem cnt_ct {x : Int32} : ∀ p, cnt x p + ctw (fun k_w => !(b32 x k_w)) p = p
  | 0 => rfl
  | p + 1 => by
    have e1_w : cnt x (p + 1) = cnt x p + (if b32 x p = true then 1 else 0) := rfl
    have e2_w : ctw (fun k_w => !(b32 x k_w)) (p + 1) = ctw (fun k_w => !(b32 x k_w)) p + (if (!(b32 x p)) = true then 1 else 0) := rfl
    have e_w := cnt_ct (x := x) p
    rw [e1_w, e2_w]
    cases b32 x p with
    | false =>
      rw [if_neg (show ¬ false = true by decide), if_pos (show (!false) = true from rfl)]
      omega
    | true =>
      rw [if_pos (show true = true from rfl), if_neg (show ¬ (!true) = true by decide)]
      omega
theorem sub_w {x : Int32} {p q_w n_w : Nat} (hn : n_w ≤ 1000) (hx : x.toInt = n_w) (e_w : p + q_w = n_w) : x - Int32.ofNat p = Int32.ofNat q_w := by
  refine Int32.toInt_inj.mp ?_
  rw [Int32.toInt_sub, hx, mk_i (by omega), mk_i (by omega), sx_bm (by omega) (by omega)]
  omega
/-- the graph of states -/
def GSw (n_w E_w : Nat) (bh : Nat → Int32) (i_w t_w : Nat) : Prop := i_w < n_w ∧ t_w < n_w ∧ ∃ k_w, k_w < E_w ∧ bh (16 * i_w + k_w) ≠ -4 ∧ (bh (16 * i_w + k_w)).toNatClampNeg = t_w
/-- what is told of states that are stuck: both sides alike -/
theorem stu_cmp {a n_w : Nat} {x1 : Int32} {c_w m_w : dc_M} {w : Int32 × dc_M} (N_w : NR a c_w m_w) (n1_w : 1 ≤ n_w) (n2_w : n_w ≤ 200) (hn : (c_w.1 4 0).toInt = n_w) (hm_w : m_w.1 82 32 = c_w.1 4 0) (K_w : MAw c_w) (k11 : c_w.1 1 11 ≠ 0) (len_w : (c_w.2.2.2 11).2 = 200) (hb_w : ∀ i_w k_w : Nat, i_w < n_w → (k_w : Int) < (c_w.1 a 1).toInt → m_w.1 100 (16 * i_w + k_w) = -4 ∨ ∃ t_w, t_w < n_w ∧ m_w.1 100 (16 * i_w + k_w) = Int32.ofNat t_w ∧ c_w.1 9 (16 * i_w + k_w) = Int32.ofNat t_w) (RR : RW (c_w.1 a 1).toInt (c_w.1 (a + 3)) (m_w.1 100) (c_w.1 6) (c_w.1 8) (c_w.1 4 2) n_w) (g_w : d_X10_stuck_l32 82 x1 0 0 0 m_w = some w) : (x1.toInt = 0 → ∀ q_w, d_X7_ends 4 c_w = some q_w → q_w = w.1) ∧ (x1.toInt = 1 → ∀ q_w, d_X7_astray 4 c_w = some q_w → q_w.1 = w.1) ∧ (¬ x1.toInt = 0 → ¬ x1.toInt = 1 → c_w.1 a 1 - d_J6_bitCount_0f7a4 (c_w.1 4 2) c_w = w.1) := by
  obtain ⟨-, ⟨v0_w, ⟨v1_w, v2⟩, v3⟩, -⟩ := N_w
  obtain ⟨E_w, hE⟩ : ∃ E_w : Nat, (c_w.1 a 1).toInt = E_w := ⟨(c_w.1 a 1).toInt.toNat, by omega⟩
  have h16_w : E_w ≤ 16 := by omega
  have mE : (m_w.1 82 3).toInt = E_w := by rw [← v0_w]; exact hE
  have rdb : ∀ i_w, i_w < n_w → ∀ k_w, k_w < 32 → b32 (c_w.1 6 i_w) k_w = (decide (k_w < E_w) && decide (m_w.1 100 (16 * i_w + k_w) ≠ -4)) := fun i_w hi_w k_w hk => by
    rw [(RR.1 i_w hi_w).1 k_w hk, hE, show decide ((k_w : Int) < (E_w : Int)) = decide (k_w < E_w) from decide_eq_decide.mpr (by omega)]
  have gc_w : GRw (GSw n_w E_w (m_w.1 100)) n_w E_w m_w := ⟨fun i_w t_w q_w => ⟨q_w.1, q_w.2.1⟩, fun i_w hi_w t_w => ⟨fun q_w => q_w.2.2, fun ⟨k_w, k1_w, k2_w, k3_w⟩ => by
    refine ⟨hi_w, ?_, k_w, k1_w, k2_w, k3_w⟩
    rcases hb_w i_w k_w hi_w (by omega) with r_w | ⟨u_w, u1_w, u2_w, -⟩
    · exact absurd r_w k2_w
    · rw [u2_w, on_n (by omega)] at k3_w
      omega⟩⟩
  obtain ⟨X_w, hX, f_w, f1_w, f2_w, f3_w, f4_w⟩ := sr_run (rd := c_w.1 6) n1_w n2_w (by rw [hm_w]; exact hn) mE h16_w gc_w (fun i_w M_w q_w hi_w hM_w hq => b32_ext (fun k_w hk => by
    rw [ri_run (mk_i (by omega)) (by omega) (by rw [hM_w 82 3 (by decide)]; exact mE) h16_w hq k_w hk, hM_w 100 (16 * i_w + k_w) (by decide), rdb i_w hi_w k_w hk, show decide ((k_w : Int) < (E_w : Int)) = decide (k_w < E_w) from decide_eq_decide.mpr (by omega)])) g_w
  have fh : ∀ (c0 : dc_M) (q_w : Int32 × dc_M), (∀ b k_w, 4 ≤ b → b ≤ 10 → ¬ (b = 4 ∧ k_w = 11) → c0.1 b k_w = c_w.1 b k_w) → (c0.2.2.2 11).2 = 200 → d_X7_findHome 4 c0 = some q_w → c_w.1 4 0 - q_w.1 = Int32.ofNat (ctw (fun i_w => !(f_w i_w)) n_w) := fun c0 q_w e_w l hq => by
    have gc0 : GCw (GSw n_w E_w (m_w.1 100)) n_w c0 := ⟨fun i_w t_w q_w => ⟨q_w.1, q_w.2.1⟩, fun i_w hi_w t_w => by
      have e6_w : c0.1 6 i_w = c_w.1 6 i_w := e_w 6 i_w (by decide) (by decide) (by omega)
      constructor
      · rintro ⟨-, t1, k_w, k1_w, k2_w, k3_w⟩
        refine ⟨k_w, by omega, by rw [e6_w, rdb i_w hi_w k_w (by omega), decide_eq_true k1_w, decide_eq_true k2_w]; rfl, ?_⟩
        rw [e_w 9 (16 * i_w + k_w) (by decide) (by decide) (by omega)]
        rcases hb_w i_w k_w hi_w (by omega) with r_w | ⟨u_w, u1_w, u2_w, u3⟩
        · exact absurd r_w k2_w
        · rw [u3]
          rw [u2_w] at k3_w
          exact k3_w
      · rintro ⟨k_w, k1_w, k2_w, k3_w⟩
        rw [e6_w, rdb i_w hi_w k_w (by omega), Bool.and_eq_true] at k2_w
        have kE := of_decide_eq_true k2_w.1
        have kc_w := of_decide_eq_true k2_w.2
        rw [e_w 9 (16 * i_w + k_w) (by decide) (by decide) (by omega)] at k3_w
        rcases hb_w i_w k_w hi_w (by omega) with r_w | ⟨u_w, u1_w, u2_w, u3⟩
        · exact absurd r_w kc_w
        · rw [u3] at k3_w
          have k4_w := k3_w
          rw [on_n (by omega)] at k4_w
          exact ⟨hi_w, by omega, k_w, kE, kc_w, by rw [u2_w]; exact k3_w⟩⟩
    obtain ⟨f', g1, g2⟩ := fh_run n1_w n2_w (by rw [e_w 4 0 (by decide) (by decide) (by decide)]; exact hn) l gc0 hq
    have ff_w : ctw f' n_w = ctw f_w n_w := ctw_c n_w (fun k_w hk => Bool.eq_iff_iff.mpr ((g1 k_w hk).trans (f1_w k_w hk).symm))
    rw [g2, ff_w]
    exact sub_w (by omega) hn (ctw_no n_w)
  refine ⟨fun e_w q_w hq => ?_, fun e_w q_w hq => ?_, fun e1_w e2_w => ?_⟩
  · rw [f2_w e_w]
    exact en_run n2_w hn hq
  · rw [f3_w e_w]
    unfold d_X7_astray at hq
    by_cases z_w : (c_w.1 4 11).toInt = -100
    · rw [if_neg (fun r_w => r_w z_w)] at hq
      cases hh : d_X7_findHome 4 c_w with
      | none => rw [hh] at hq; cases hq
      | some r_w =>
        rw [hh, Option.bind_some] at hq
        have hq := Option.some.inj hq
        rw [← hq]
        show (dc_wi r_w.2 4 11 (c_w.1 4 0 - r_w.1)).1 4 11 = _
        rw [wi_s]
        exact fh c_w r_w (fun _ _ _ _ _ => rfl) len_w hh
    · rw [if_pos z_w] at hq
      have hq := Option.some.inj hq
      rw [← hq]
      obtain ⟨c0, r_w, k1_w, k2_w, k3_w, k4_w⟩ := K_w k11 (fun r_w => z_w (by rw [r_w]; rfl))
      show c_w.1 4 11 = _
      rw [k4_w]
      exact fh c0 r_w k1_w k2_w k3_w
  · rw [f4_w e1_w e2_w, bc_cnt]
    have eX : c_w.1 4 2 = X_w := b32_ext (fun k_w hk => Bool.eq_iff_iff.mpr ((RR.2 k_w hk).trans (hX k_w hk).symm))
    have hi_w : ∀ k_w, E_w ≤ k_w → k_w < 32 → b32 X_w k_w = false := fun k_w k1_w k2_w => eq_false_of_ne_true (fun r_w => by
      obtain ⟨i_w, i1_w, i2_w⟩ := (hX k_w k2_w).mp r_w
      rw [rdb i_w i1_w k_w k2_w, decide_eq_false (show ¬ k_w < E_w by omega), Bool.false_and] at i2_w
      cases i2_w)
    rw [eX, cnt_hi hi_w 32 (by omega) (by omega)]
    exact sub_w (by omega) hE (cnt_ct E_w)
