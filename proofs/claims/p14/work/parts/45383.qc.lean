/-! ===== quarrels: a chain gone through, all states ===== -/
theorem QIw.bd {lv : Nat → Nat} {E_w : Nat → Int32} {made_w : Int32} {s k_w : Nat} {m_w : dc_M} (hs : s < 200) (hk : k_w ≤ s) (q_w : QIw lv E_w made_w s k_w m_w) : (0 ≤ (m_w.1 12 0).toInt ∧ (m_w.1 12 0).toInt ≤ 100000) ∧ 0 ≤ (m_w.1 12 1).toInt ∧ (m_w.1 12 1).toInt ≤ 100000 := by
  obtain ⟨q1_w, q2_w, q3⟩ := q_w
  have a1_w := @smw_b (fun u_w => ctw (fun t_w => decide (lv t_w = lv u_w)) u_w) (fun u_w => ctw_le u_w) s (by omega)
  have a2 := @smw_b (fun u_w => ctw (fun t_w => quv lv E_w made_w t_w u_w) u_w) (fun u_w => ctw_le u_w) s (by omega)
  have a3 := ctw_le (p := fun t_w => decide (lv t_w = lv s)) s
  have a4 := ctw_le (p := fun t_w => quv lv E_w made_w t_w s) s
  have m1_w : ∀ {p : Nat → Bool} (d_w : Nat), ctw p k_w ≤ ctw p (k_w + d_w) := fun {p} d_w => by
    induction d_w with
    | zero => exact Nat.le_refl _
    | succ d_w ih =>
      have : ctw p (k_w + (d_w + 1)) = ctw p (k_w + d_w) + (if p (k_w + d_w) = true then 1 else 0) := rfl
      rw [this]
      omega
  have b1 := m1_w (p := fun t_w => decide (lv t_w = lv s)) (s - k_w)
  have b2 := m1_w (p := fun t_w => quv lv E_w made_w t_w s) (s - k_w)
  rw [show k_w + (s - k_w) = s by omega] at b1 b2
  omega
theorem l64_run {lv : Nat → Nat} {E_w : Nat → Int32} {made_w x4_w : Int32} {s : Nat} {m_w : dc_M} {u_w : (Int32 × dc_M) ⊕ dc_M} (hs : s < 200) (hx : x4_w.toNatClampNeg = lv s) (hl : lv s < 64) (hE : ∀ t_w, t_w ≤ s → m_w.1 8 t_w = E_w t_w) (Q : QSw lv E_w made_w s m_w) (H_w : HLw lv s (m_w.1 13) (m_w.1 14)) (h_w : d_X0_findQuarrels_l64 12 made_w 4 (Int32.ofNat s) x4_w (m_w.1 13 x4_w.toNatClampNeg) 0 m_w = some u_w) : ∃ m', u_w = .inl (Int32.ofNat s + 1, m') ∧ QSw lv E_w made_w (s + 1) m' ∧ HLw lv (s + 1) (m'.1 13) (m'.1 14) ∧ (∀ b_w j_w, b_w ≠ 13 → b_w ≠ 14 → ¬ (b_w = 12 ∧ j_w ≤ 3) → m'.1 b_w j_w = m_w.1 b_w j_w) ∧ m'.2 = m_w.2 := by
  rw [hx, H_w.1 _ hl] at h_w
  unfold d_X0_findQuarrels_l64 at h_w
  refine dc_lp_inv (s := (enw (hdw lv s (lv s)), (0 : Int32), m_w)) (fun z_w : Int32 × Int32 × dc_M => ∃ k_w, k_w ≤ s ∧ z_w.1 = enw (hdw lv k_w (lv s)) ∧ (0 ≤ z_w.2.1.toInt ∧ z_w.2.1.toInt + k_w ≤ s) ∧ QIw lv E_w made_w s k_w z_w.2.2 ∧ (∀ b_w j_w, ¬ (b_w = 12 ∧ j_w ≤ 3) → z_w.2.2.1 b_w j_w = m_w.1 b_w j_w) ∧ z_w.2.2.2 = m_w.2) (fun u_w : (Int32 × dc_M) ⊕ dc_M => ∃ m', u_w = .inl (Int32.ofNat s + 1, m') ∧ QSw lv E_w made_w (s + 1) m' ∧ HLw lv (s + 1) (m'.1 13) (m'.1 14) ∧ (∀ b_w j_w, b_w ≠ 13 → b_w ≠ 14 → ¬ (b_w = 12 ∧ j_w ≤ 3) → m'.1 b_w j_w = m_w.1 b_w j_w) ∧ m'.2 = m_w.2) (fun z_w z' hI hz => ?_) (fun z_w u_w hI hz => ?_) ⟨s, Nat.le_refl _, rfl, ⟨show (0 : Int) ≤ (0 : Int32).toInt by decide, by show (0 : Int32).toInt + (s : Int) ≤ s; rw [show (0 : Int32).toInt = 0 from rfl]; omega⟩, Q.to, fun _ _ _ => rfl, rfl⟩ h_w
  · obtain ⟨k_w, hk, k1_w, k2_w, k3, k4_w, k5_w⟩ := hI
    obtain ⟨x5_w, x6, zm⟩ := z_w
    have k1_w : x5_w = enw (hdw lv k_w (lv s)) := k1_w
    have k2_w : 0 ≤ x6.toInt ∧ x6.toInt + k_w ≤ s := k2_w
    have k3 : QIw lv E_w made_w s k_w zm := k3
    have k4_w : ∀ b_w j_w, ¬ (b_w = 12 ∧ j_w ≤ 3) → zm.1 b_w j_w = m_w.1 b_w j_w := k4_w
    have k5_w : zm.2 = m_w.2 := k5_w
    have hz : d_X0_findQuarrels_l64b 12 made_w 4 (Int32.ofNat s) x4_w x5_w x6 zm = some (.inl z') := hz
    unfold d_X0_findQuarrels_l64b d_X0_findQuarrels_b128 at hz
    rw [if_neg (show ¬ 200 ≤ x6.toInt by omega)] at hz
    cases hh : hdw lv k_w (lv s) with
    | none =>
      rw [k1_w, hh, if_pos (show (enw none).toInt < 0 by decide)] at hz
      cases hz
    | some t_w =>
      obtain ⟨t1_w, t2_w, t3_w⟩ := hdw_s k_w t_w hh
      rw [hh] at k1_w
      have k1_w : x5_w = Int32.ofNat t_w := k1_w
      have x5t : x5_w.toInt = t_w := by rw [k1_w]; exact mk_i (by omega)
      have x5n := cl_n (x := x5_w) (by omega)
      have x5e : x5_w.toNatClampNeg = t_w := by omega
      have sn : (Int32.ofNat s).toNatClampNeg = s := by
        have := cl_n (x := Int32.ofNat s) (by rw [mk_i (by omega)]; omega)
        rw [mk_i (by omega)] at this
        omega
      rw [if_neg (show ¬ x5_w.toInt < 0 by omega)] at hz
      obtain ⟨bd0, bd1⟩ := k3.bd hs hk
      have e6_w : (x6 + 1).toInt = x6.toInt + 1 := i1 (by omega) (Int32.le_toInt _)
      have n8 : ∀ j_w, (dc_wi zm 12 0 (zm.1 12 0 + 1)).1 8 j_w = m_w.1 8 j_w := fun j_w => by rw [wi_k (by omega)]; exact k4_w 8 j_w (by omega)
      have lk_w : zm.1 14 t_w = enw (hdw lv t_w (lv s)) := by rw [k4_w 14 t_w (by omega), H_w.2 t_w (by omega), t2_w]
      have hz : (if (((dc_wi zm 12 0 (zm.1 12 0 + 1)).1 8 (Int32.ofNat s).toNatClampNeg ^^^ (dc_wi zm 12 0 (zm.1 12 0 + 1)).1 8 x5_w.toNatClampNeg) &&& made_w).toInt = 0 then some (Sum.inl (zm.1 14 x5_w.toNatClampNeg, x6 + 1, dc_wi zm 12 0 (zm.1 12 0 + 1))) else some (Sum.inl ((d_X0_addQuarrel 12 x5_w (Int32.ofNat s) (dc_wi zm 12 0 (zm.1 12 0 + 1))).1 14 x5_w.toNatClampNeg, x6 + 1, d_X0_addQuarrel 12 x5_w (Int32.ofNat s) (dc_wi zm 12 0 (zm.1 12 0 + 1))))) = some (Sum.inl z') := hz
      rw [n8, n8, sn, x5e, hE s (Nat.le_refl _), hE t_w (by omega)] at hz
      by_cases cq : ((E_w s ^^^ E_w t_w) &&& made_w).toInt = 0
      · rw [if_pos cq] at hz
        have hz := Sum.inl.inj (Option.some.inj hz)
        rw [← hz]
        have nq : quv lv E_w made_w t_w s = false := by
          show (decide (lv t_w = lv s) && decide (((E_w s ^^^ E_w t_w) &&& made_w).toInt ≠ 0)) = false
          rw [decide_eq_false (show ¬ ((E_w s ^^^ E_w t_w) &&& made_w).toInt ≠ 0 from fun q_w => q_w cq), Bool.and_false]
        have c1_w := t3_w (fun t_w => decide (lv t_w = lv s)) (fun k_w hk => of_decide_eq_true hk)
        have c2_w := t3_w (fun t_w => quv lv E_w made_w t_w s) (fun k_w hk => by
          have hk : (decide (lv k_w = lv s) && decide (((E_w s ^^^ E_w k_w) &&& made_w).toInt ≠ 0)) = true := hk
          rw [Bool.and_eq_true] at hk
          exact of_decide_eq_true hk.1)
        rw [if_pos (decide_eq_true t2_w)] at c1_w
        rw [nq, if_neg (by decide)] at c2_w
        have e0_w : (zm.1 12 0 + 1).toInt = (zm.1 12 0).toInt + 1 := i1 (by omega) (Int32.le_toInt _)
        obtain ⟨q1_w, q2_w, q3⟩ := k3
        refine ⟨t_w, by omega, lk_w, ⟨by show 0 ≤ (x6 + 1).toInt; omega, by show (x6 + 1).toInt + (t_w : Int) ≤ s; omega⟩, ⟨?_, ?_, ?_⟩, fun b_w j_w h_w => (wi_k (by omega)).trans (k4_w b_w j_w h_w), k5_w⟩
        · show ((dc_wi zm 12 0 (zm.1 12 0 + 1)).1 12 0).toInt + _ = _
          rw [wi_s, e0_w]
          omega
        · show ((dc_wi zm 12 0 (zm.1 12 0 + 1)).1 12 1).toInt + _ = _
          rw [wi_k (by omega)]
          omega
        · show FPw _ _ ((dc_wi zm 12 0 (zm.1 12 0 + 1)).1 12 2) ((dc_wi zm 12 0 (zm.1 12 0 + 1)).1 12 3) ((dc_wi zm 12 0 (zm.1 12 0 + 1)).1 12 1)
          rw [wi_k (by omega), wi_k (by omega), wi_k (by omega)]
          refine q3.sk (fun t' u_w hy => ?_) (fun t' u_w hx => ⟨hx.1, by omega⟩)
          by_cases ho : u_w < s ∨ (u_w = s ∧ k_w ≤ t')
          · exact Or.inl ⟨hy.1, ho⟩
          · refine Or.inr ?_
            have hu : u_w = s := by omega
            rw [hu]
            by_cases he : t' = t_w
            · rw [he]; exact nq
            · refine eq_false_of_ne_true (fun hp => ?_)
              have c3_w := t3_w (fun x => decide (x = t')) (fun x hx => by
                rw [of_decide_eq_true hx]
                have hp : (decide (lv t' = lv s) && decide (((E_w s ^^^ E_w t') &&& made_w).toInt ≠ 0)) = true := hp
                rw [Bool.and_eq_true] at hp
                exact of_decide_eq_true hp.1)
              rw [if_neg (by rw [decide_eq_false (fun q_w => he q_w.symm)]; decide)] at c3_w
              have g1 : ctw (fun x => decide (x = t')) t_w = 0 := ctw_0 t_w (fun x hx => decide_eq_false (by omega))
              have g2 : ∀ n_w, t' < n_w → 0 < ctw (fun x => decide (x = t')) n_w := fun n_w => by
                induction n_w with
                | zero => exact fun q_w => absurd q_w (Nat.not_lt_zero _)
                | succ n_w ih =>
                  intro hn
                  show 0 < ctw (fun x => decide (x = t')) n_w + (if decide (n_w = t') = true then 1 else 0)
                  by_cases hz : n_w = t'
                  · rw [if_pos (decide_eq_true hz)]
                    omega
                  · have := ih (by omega)
                    omega
              have := g2 k_w (by omega)
              omega
      · rw [if_neg cq] at hz
        have hz := Sum.inl.inj (Option.some.inj hz)
        rw [← hz, k1_w]
        have hq : quv lv E_w made_w t_w s = true := by
          show (decide (lv t_w = lv s) && decide (((E_w s ^^^ E_w t_w) &&& made_w).toInt ≠ 0)) = true
          rw [decide_eq_true t2_w, decide_eq_true cq]
          rfl
        obtain ⟨r1_w, r2⟩ := aq_run hs hk t1_w t2_w hq t3_w bd1 bd0 k3
        have r3 : (d_X0_addQuarrel 12 (Int32.ofNat t_w) (Int32.ofNat s) (dc_wi zm 12 0 (zm.1 12 0 + 1))).2 = zm.2 := by
          unfold d_X0_addQuarrel
          split
          · rfl
          · split <;> rfl
        refine ⟨t_w, by omega, ?_, ⟨by show 0 ≤ (x6 + 1).toInt; omega, by show (x6 + 1).toInt + (t_w : Int) ≤ s; omega⟩, r1_w, fun b_w j_w h_w => (r2 b_w j_w h_w).trans (k4_w b_w j_w h_w), r3.trans k5_w⟩
        show (d_X0_addQuarrel 12 (Int32.ofNat t_w) (Int32.ofNat s) (dc_wi zm 12 0 (zm.1 12 0 + 1))).1 14 t_w = _
        rw [r2 14 t_w (by omega)]
        exact lk_w
  · obtain ⟨k_w, hk, k1_w, k2_w, k3, k4_w, k5_w⟩ := hI
    obtain ⟨x5_w, x6, zm⟩ := z_w
    have k1_w : x5_w = enw (hdw lv k_w (lv s)) := k1_w
    have k2_w : 0 ≤ x6.toInt ∧ x6.toInt + k_w ≤ s := k2_w
    have k3 : QIw lv E_w made_w s k_w zm := k3
    have k4_w : ∀ b_w j_w, ¬ (b_w = 12 ∧ j_w ≤ 3) → zm.1 b_w j_w = m_w.1 b_w j_w := k4_w
    have k5_w : zm.2 = m_w.2 := k5_w
    have hz : d_X0_findQuarrels_l64b 12 made_w 4 (Int32.ofNat s) x4_w x5_w x6 zm = some (.inr u_w) := hz
    unfold d_X0_findQuarrels_l64b d_X0_findQuarrels_b128 at hz
    rw [if_neg (show ¬ 200 ≤ x6.toInt by omega)] at hz
    cases hh : hdw lv k_w (lv s) with
    | some t_w =>
      obtain ⟨t1_w, t2_w, t3_w⟩ := hdw_s k_w t_w hh
      rw [hh] at k1_w
      have x5t : x5_w.toInt = t_w := by rw [k1_w]; exact mk_i (by omega)
      rw [if_neg (show ¬ x5_w.toInt < 0 by omega)] at hz
      split at hz <;> cases hz
    | none =>
      rw [hh] at k1_w
      have x5t : x5_w.toInt = -4 := by rw [k1_w]; rfl
      rw [if_pos (show x5_w.toInt < 0 by omega)] at hz
      have hz := Sum.inr.inj (Option.some.inj hz)
      have sn : (Int32.ofNat s).toNatClampNeg = s := by
        have := cl_n (x := Int32.ofNat s) (by rw [mk_i (by omega)]; omega)
        rw [mk_i (by omega)] at this
        omega
      rw [← hz]
      refine ⟨_, rfl, ?_, ?_, fun b_w j_w h1 h2 h3 => ?_, k5_w⟩
      · obtain ⟨q1_w, q2_w, q3⟩ := k3
        have z1 : ctw (fun t_w => decide (lv t_w = lv s)) k_w = 0 := ctw_0 k_w (fun t_w ht => decide_eq_false (hdw_n k_w hh t_w ht))
        have z2 : ctw (fun t_w => quv lv E_w made_w t_w s) k_w = 0 := ctw_0 k_w (fun t_w ht => by
          show (decide (lv t_w = lv s) && decide (((E_w s ^^^ E_w t_w) &&& made_w).toInt ≠ 0)) = false
          rw [decide_eq_false (hdw_n k_w hh t_w ht), Bool.false_and])
        have w_w : ∀ j_w, (dc_wi (dc_wi zm (12 + 2) (Int32.ofNat s).toNatClampNeg (zm.1 (12 + 1) x4_w.toNatClampNeg)) (12 + 1) x4_w.toNatClampNeg (Int32.ofNat s)).1 12 j_w = zm.1 12 j_w := fun j_w => by rw [wi_k (by omega), wi_k (by omega)]
        refine ⟨?_, ?_, ?_⟩
        · show ((dc_wi (dc_wi zm (12 + 2) (Int32.ofNat s).toNatClampNeg (zm.1 (12 + 1) x4_w.toNatClampNeg)) (12 + 1) x4_w.toNatClampNeg (Int32.ofNat s)).1 12 0).toInt = smw (fun u_w => ctw (fun t_w => decide (lv t_w = lv u_w)) u_w) s + ctw (fun t_w => decide (lv t_w = lv s)) s
          rw [w_w]
          omega
        · show ((dc_wi (dc_wi zm (12 + 2) (Int32.ofNat s).toNatClampNeg (zm.1 (12 + 1) x4_w.toNatClampNeg)) (12 + 1) x4_w.toNatClampNeg (Int32.ofNat s)).1 12 1).toInt = smw (fun u_w => ctw (fun t_w => quv lv E_w made_w t_w u_w) u_w) s + ctw (fun t_w => quv lv E_w made_w t_w s) s
          rw [w_w]
          omega
        · show FPw _ _ ((dc_wi (dc_wi zm (12 + 2) (Int32.ofNat s).toNatClampNeg (zm.1 (12 + 1) x4_w.toNatClampNeg)) (12 + 1) x4_w.toNatClampNeg (Int32.ofNat s)).1 12 2) ((dc_wi (dc_wi zm (12 + 2) (Int32.ofNat s).toNatClampNeg (zm.1 (12 + 1) x4_w.toNatClampNeg)) (12 + 1) x4_w.toNatClampNeg (Int32.ofNat s)).1 12 3) ((dc_wi (dc_wi zm (12 + 2) (Int32.ofNat s).toNatClampNeg (zm.1 (12 + 1) x4_w.toNatClampNeg)) (12 + 1) x4_w.toNatClampNeg (Int32.ofNat s)).1 12 1)
          rw [w_w, w_w, w_w]
          refine q3.sk (fun t' u_w hy => ?_) (fun t' u_w hx => ⟨hx.1, by omega⟩)
          by_cases ho : u_w < s ∨ (u_w = s ∧ k_w ≤ t')
          · exact Or.inl ⟨hy.1, ho⟩
          · refine Or.inr ?_
            have hu : u_w = s := by omega
            rw [hu]
            show (decide (lv t' = lv s) && decide (((E_w s ^^^ E_w t') &&& made_w).toInt ≠ 0)) = false
            rw [decide_eq_false (hdw_n k_w hh t' (by omega)), Bool.false_and]
      · refine H_w.up hl (fun l => ?_) (fun t_w => ?_)
        · show (dc_wi (dc_wi zm (12 + 2) (Int32.ofNat s).toNatClampNeg (zm.1 (12 + 1) x4_w.toNatClampNeg)) (12 + 1) x4_w.toNatClampNeg (Int32.ofNat s)).1 13 l = _
          rw [hx]
          by_cases hz : l = lv s
          · rw [if_pos hz, hz]
            exact wi_s
          · rw [if_neg hz, wi_k (by omega), wi_k (by omega)]
            exact k4_w 13 l (by omega)
        · show (dc_wi (dc_wi zm (12 + 2) (Int32.ofNat s).toNatClampNeg (zm.1 (12 + 1) x4_w.toNatClampNeg)) (12 + 1) x4_w.toNatClampNeg (Int32.ofNat s)).1 14 t_w = _
          rw [wi_k (by omega), sn]
          by_cases hz : t_w = s
          · rw [if_pos hz, hz]
            refine Eq.trans wi_s ?_
            rw [show 12 + 1 = 13 from rfl, k4_w 13 _ (by omega), hx]
          · rw [if_neg hz, wi_k (by omega)]
            exact k4_w 14 t_w (by omega)
      · show (dc_wi (dc_wi zm (12 + 2) (Int32.ofNat s).toNatClampNeg (zm.1 (12 + 1) x4_w.toNatClampNeg)) (12 + 1) x4_w.toNatClampNeg (Int32.ofNat s)).1 b_w j_w = _
        rw [wi_k (by omega), wi_k (by omega)]
        exact k4_w b_w j_w h3
