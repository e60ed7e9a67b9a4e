/-! ===== calls that explore: what the class remembers stays true, of makes and cost (written by a program) ===== -/
theorem cp_X1_choose_l19 {m : dc_M} {a b : Nat} {c0 : dc_M} {x0 : Nat} {x3 : Int64} {x5 : Int32} {x6 : Int32} {x7 : Int32} {e : (Int32 × dc_M)} (hx : x0 = 21) (hD : CP a b c0 m) (h : d_X1_choose_l19 x0 x3 x5 x6 x7 m = some e) : CP a b c0 (e.2) := by
  unfold d_X1_choose_l19 at h
  refine dc_lp_inv (fun s => CP a b c0 (s.2.2.2.2)) (fun e => CP a b c0 (e.2)) (fun s s' hI e1 => ?_) (fun s e' hI e1 => ?_) hD h
  · unfold d_X1_choose_l19s d_X1_choose_l19b at e1
    by_cases c1 : 64 ≤ (Int32.toInt s.2.2.2.1)
    · rw [if_pos c1] at e1
      cases e1
    · rw [if_neg c1] at e1
      by_cases c2 : 32 ≤ (Int32.toInt s.2.2.1)
      · rw [if_pos c2] at e1
        cases e1
      · rw [if_neg c2] at e1
        by_cases c3 : ¬ (Int32.toInt (lg_cmp ((((s.1).toUInt64 >>> ((Int32.toInt64 s.2.2.2.1).toUInt64 &&& Int64.toUInt64 63)).toInt64) &&& (1 : Int64)) (0 : Int64))) = 0
        · rw [if_pos c3] at e1
          cases hq1 : (d_X1_firstThatCanDo x0 s.1 s.2.2.2.1 s.2.1 s.2.2.2.2) with
          | none => rw [hq1] at e1; cases e1
          | some q1 =>
            rw [hq1, Option.bind_some] at e1
            by_cases c4 : 0 ≤ (Int32.toInt q1)
            · rw [if_pos c4] at e1
              cases e1
              exact (cp_wi hI (fun q => by unfold cpc; omega))
            · rw [if_neg c4] at e1
              cases e1
        · rw [if_neg c3] at e1
          cases e1
          exact hI
  · unfold d_X1_choose_l19s d_X1_choose_l19b at e1
    by_cases c1 : 64 ≤ (Int32.toInt s.2.2.2.1)
    · rw [if_pos c1] at e1
      cases e1
      exact hI
    · rw [if_neg c1] at e1
      by_cases c2 : 32 ≤ (Int32.toInt s.2.2.1)
      · rw [if_pos c2] at e1
        cases e1
        exact hI
      · rw [if_neg c2] at e1
        by_cases c3 : ¬ (Int32.toInt (lg_cmp ((((s.1).toUInt64 >>> ((Int32.toInt64 s.2.2.2.1).toUInt64 &&& Int64.toUInt64 63)).toInt64) &&& (1 : Int64)) (0 : Int64))) = 0
        · rw [if_pos c3] at e1
          cases hq1 : (d_X1_firstThatCanDo x0 s.1 s.2.2.2.1 s.2.1 s.2.2.2.2) with
          | none => rw [hq1] at e1; cases e1
          | some q1 =>
            rw [hq1, Option.bind_some] at e1
            by_cases c4 : 0 ≤ (Int32.toInt q1)
            · rw [if_pos c4] at e1
              cases e1
            · rw [if_neg c4] at e1
              cases e1
              exact hI
        · rw [if_neg c3] at e1
          cases e1
theorem cp_X1_choose {m : dc_M} {a b : Nat} {c0 : dc_M} {x0 : Nat} {x1 : Int64} {e : (Int32 × dc_M)} (hx : x0 = 21) (hD : CP a b c0 m) (h : d_X1_choose x0 x1 m = some e) : CP a b c0 (e.2) := by
  unfold d_X1_choose at h
  cases hq1 : (d_X1_leastWeight x0 x1 (8448 : Int32) (0 : Int32) m) with
  | none => rw [hq1] at h; cases h
  | some q1 =>
    rw [hq1, Option.bind_some] at h
    exact cp_X1_choose_l19 hx hD h
theorem cp_X1_putInOrder_l5 {m : dc_M} {a b : Nat} {c0 : dc_M} {x0 : Nat} {x1 : Int32} {x2 : Int32} {e : dc_M} (hx : x0 = 21) (hD : CP a b c0 m) (h : d_X1_putInOrder_l5 x0 x1 x2 m = some e) : CP a b c0 e := by
  unfold d_X1_putInOrder_l5 at h
  refine dc_lp_inv (fun s => CP a b c0 (s.2)) (fun e => CP a b c0 e) (fun s s' hI e1 => ?_) (fun s e' hI e1 => ?_) hD h
  · obtain ⟨sb, sm⟩ := s
    have hI : CP a b c0 sm := hI
    have e1 : d_X1_putInOrder_l5b x0 x1 sb sm = some (.inl s') := e1
    unfold d_X1_putInOrder_l5b at e1
    by_cases c1 : (Int32.toInt sb) ≤ 0
    · rw [if_pos c1] at e1
      exact (oi_rl e1).elim
    · rw [if_neg c1] at e1
      by_cases c2 : (Int32.toInt (sm.1 (x0 + 5) (Int32.toNatClampNeg (sm.1 (x0 + 8) (Int32.toNatClampNeg (sb - (1 : Int32))))))) ≤ (Int32.toInt (sm.1 (x0 + 5) (Int32.toNatClampNeg x1)))
      · rw [if_pos c2] at e1
        exact (oi_rl e1).elim
      · rw [if_neg c2] at e1
        exact oi_l (fun s : Int32 × dc_M => CP a b c0 s.2) e1 (cp_wi hI (fun q => by unfold cpc; omega))
  · unfold d_X1_putInOrder_l5s d_X1_putInOrder_l5b at e1
    by_cases c1 : (Int32.toInt s.1) ≤ 0
    · rw [if_pos c1] at e1
      cases e1
      exact (cp_wi (cp_wi hI (fun q => by unfold cpc; omega)) (fun q => by first | exact hx q _ | (unfold cpc; omega)))
    · rw [if_neg c1] at e1
      by_cases c2 : (Int32.toInt (s.2.1 (x0 + 5) (Int32.toNatClampNeg (s.2.1 (x0 + 8) (Int32.toNatClampNeg (s.1 - (1 : Int32))))))) ≤ (Int32.toInt (s.2.1 (x0 + 5) (Int32.toNatClampNeg x1)))
      · rw [if_pos c2] at e1
        cases e1
        exact (cp_wi (cp_wi hI (fun q => by unfold cpc; omega)) (fun q => by first | exact hx q _ | (unfold cpc; omega)))
      · rw [if_neg c2] at e1
        cases e1
theorem cp_X1_putInOrder {m : dc_M} {a b : Nat} {c0 : dc_M} {x0 : Nat} {x1 : Int32} {e : dc_M} (hx : x0 = 21) (hD : CP a b c0 m) (h : d_X1_putInOrder x0 x1 m = some e) : CP a b c0 e := by
  unfold d_X1_putInOrder at h
  exact cp_X1_putInOrder_l5 hx hD h
theorem cp_X1_weighLevels_b131 {m : dc_M} {a b : Nat} {c0 : dc_M} {x0 : Nat} {x1 : Int64} {x3 : Int32} {u : ((Int32 × dc_M) ⊕ dc_M)} (hx : x0 = 21) (hD : CP a b c0 m) (h : d_X1_weighLevels_b131 x0 x1 x3 m = some u) : (∀ s', u = .inl s' → CP a b c0 (s'.2)) ∧ (∀ e, u = .inr e → CP a b c0 e) := by
  unfold d_X1_weighLevels_b131 at h
  cases hq1 : (d_X1_putInOrder x0 x3 m) with
  | none => rw [hq1] at h; cases h
  | some q1 =>
    rw [hq1, Option.bind_some] at h
    have dq1 := cp_X1_putInOrder hx hD hq1
    cases h
    exact ⟨fun _ q => (by cases q; exact dq1), fun _ q => (by cases q)⟩
theorem cp_X1_weighLevels_l52 {m : dc_M} {a b : Nat} {c0 : dc_M} {x0 : Nat} {x1 : Int64} {x3 : Int32} {x4 : Int32} {u : ((Int32 × dc_M) ⊕ dc_M)} (hx : x0 = 21) (hD : CP a b c0 m) (h : d_X1_weighLevels_l52 x0 x1 x3 x4 m = some u) : (∀ s', u = .inl s' → CP a b c0 (s'.2)) ∧ (∀ e, u = .inr e → CP a b c0 e) := by
  unfold d_X1_weighLevels_l52 at h
  refine dc_lp_inv (fun s => CP a b c0 (s.2)) (fun u => (∀ s', u = .inl s' → CP a b c0 (s'.2)) ∧ (∀ e, u = .inr e → CP a b c0 e)) (fun s s' hI e1 => ?_) (fun s e' hI e1 => ?_) hD h
  · unfold d_X1_weighLevels_l52s d_X1_weighLevels_l52b at e1
    by_cases c1 : (Int32.toInt (s.2.1 x0 1)) ≤ (Int32.toInt s.1)
    · rw [if_pos c1] at e1
      cases hz : d_X1_weighLevels_b131 x0 x1 x3 s.2 with
      | none => rw [hz] at e1; cases e1
      | some z =>
        rw [hz] at e1
        cases e1
    · rw [if_neg c1] at e1
      by_cases c2 : (Int32.toInt (lg_cmp (((((s.2.2.1 (x0 + 4) (Int32.toNatClampNeg s.1))).toUInt64 >>> ((Int32.toInt64 x3).toUInt64 &&& Int64.toUInt64 63)).toInt64) &&& (1 : Int64)) (0 : Int64))) = 0
      · rw [if_pos c2] at e1
        cases e1
        exact hI
      · rw [if_neg c2] at e1
        cases e1
        exact (cp_wl (cp_wi (cp_wi hI (fun q => by unfold cpc; omega)) (fun q => by unfold cpc; omega)) (fun q => by unfold cpc; omega))
  · unfold d_X1_weighLevels_l52s d_X1_weighLevels_l52b at e1
    by_cases c1 : (Int32.toInt (s.2.1 x0 1)) ≤ (Int32.toInt s.1)
    · rw [if_pos c1] at e1
      cases hz : d_X1_weighLevels_b131 x0 x1 x3 s.2 with
      | none => rw [hz] at e1; cases e1
      | some z =>
        rw [hz] at e1
        cases e1
        exact cp_X1_weighLevels_b131 hx hI hz
    · rw [if_neg c1] at e1
      by_cases c2 : (Int32.toInt (lg_cmp (((((s.2.2.1 (x0 + 4) (Int32.toNatClampNeg s.1))).toUInt64 >>> ((Int32.toInt64 x3).toUInt64 &&& Int64.toUInt64 63)).toInt64) &&& (1 : Int64)) (0 : Int64))) = 0
      · rw [if_pos c2] at e1
        cases e1
      · rw [if_neg c2] at e1
        cases e1
theorem cp_X1_weighLevels_l7 {m : dc_M} {a b : Nat} {c0 : dc_M} {x0 : Nat} {x1 : Int64} {x3 : Int32} {e : dc_M} (hx : x0 = 21) (hD : CP a b c0 m) (h : d_X1_weighLevels_l7 x0 x1 x3 m = some e) : CP a b c0 e := by
  unfold d_X1_weighLevels_l7 at h
  refine dc_lp_inv (fun s => CP a b c0 (s.2)) (fun e => CP a b c0 e) (fun s s' hI e1 => ?_) (fun s e' hI e1 => ?_) hD h
  · unfold d_X1_weighLevels_l7s d_X1_weighLevels_l7b at e1
    by_cases c1 : 64 ≤ (Int32.toInt s.1)
    · rw [if_pos c1] at e1
      cases e1
    · rw [if_neg c1] at e1
      by_cases c2 : ¬ (Int32.toInt (lg_cmp ((((x1).toUInt64 >>> ((Int32.toInt64 s.1).toUInt64 &&& Int64.toUInt64 63)).toInt64) &&& (1 : Int64)) (0 : Int64))) = 0
      · rw [if_pos c2] at e1
        exact (cp_X1_weighLevels_l52 hx (cp_wl (cp_wi (cp_wi hI (fun q => by unfold cpc; omega)) (fun q => by unfold cpc; omega)) (fun q => by unfold cpc; omega)) e1).1 _ rfl
      · rw [if_neg c2] at e1
        cases e1
        exact (cp_wl (cp_wi (cp_wi hI (fun q => by unfold cpc; omega)) (fun q => by unfold cpc; omega)) (fun q => by unfold cpc; omega))
  · unfold d_X1_weighLevels_l7s d_X1_weighLevels_l7b at e1
    by_cases c1 : 64 ≤ (Int32.toInt s.1)
    · rw [if_pos c1] at e1
      cases e1
      exact hI
    · rw [if_neg c1] at e1
      by_cases c2 : ¬ (Int32.toInt (lg_cmp ((((x1).toUInt64 >>> ((Int32.toInt64 s.1).toUInt64 &&& Int64.toUInt64 63)).toInt64) &&& (1 : Int64)) (0 : Int64))) = 0
      · rw [if_pos c2] at e1
        exact (cp_X1_weighLevels_l52 hx (cp_wl (cp_wi (cp_wi hI (fun q => by unfold cpc; omega)) (fun q => by unfold cpc; omega)) (fun q => by unfold cpc; omega)) e1).2 _ rfl
      · rw [if_neg c2] at e1
        cases e1
theorem cp_X1_weighLevels {m : dc_M} {a b : Nat} {c0 : dc_M} {x0 : Nat} {x1 : Int64} {e : dc_M} (hx : x0 = 21) (hD : CP a b c0 m) (h : d_X1_weighLevels x0 x1 m = some e) : CP a b c0 e := by
  unfold d_X1_weighLevels at h
  exact cp_X1_weighLevels_l7 hx (cp_wi hD (fun q => by first | exact hx q _ | (unfold cpc; omega))) h
theorem cp_X1_gatherPrimes_b121 {m : dc_M} {a b : Nat} {c0 : dc_M} {x0 : Nat} {x1 : Int64} {e : dc_M} (hx : x0 = 21) (hD : CP a b c0 m) (h : d_X1_gatherPrimes_b121 x0 x1 m = some e) : CP a b c0 e := by
  unfold d_X1_gatherPrimes_b121 at h
  cases hq1 : (d_X1_weighLevels x0 x1 m) with
  | none => rw [hq1] at h; cases h
  | some q1 =>
    rw [hq1, Option.bind_some] at h
    have dq1 := cp_X1_weighLevels hx hD hq1
    cases h
    exact dq1
theorem cp_X1_gatherPrimes_l8 {m : dc_M} {a b : Nat} {c0 : dc_M} {x0 : Nat} {x1 : Int64} {x3 : Int64} {x5 : Int32} {x6 : Int32} {x7 : Int32} {e : dc_M} (hx : x0 = 21) (hD : CP a b c0 m) (h : d_X1_gatherPrimes_l8 x0 x1 x3 x5 x6 x7 m = some e) : CP a b c0 e := by
  unfold d_X1_gatherPrimes_l8 at h
  refine dc_lp_inv (fun s => CP a b c0 (s.2)) (fun e => CP a b c0 e) (fun s s' hI e1 => ?_) (fun s e' hI e1 => ?_) hD h
  · unfold d_X1_gatherPrimes_l8s d_X1_gatherPrimes_l8b at e1
    by_cases c1 : (Int32.toInt x6) ≤ (Int32.toInt s.1)
    · rw [if_pos c1] at e1
      cases hz : d_X1_gatherPrimes_b121 x0 x1 s.2 with
      | none => rw [hz] at e1; cases e1
      | some z =>
        rw [hz] at e1
        cases e1
    · rw [if_neg c1] at e1
      by_cases c2 : 729 ≤ (Int32.toInt s.1)
      · rw [if_pos c2] at e1
        cases hz : d_X1_gatherPrimes_b121 x0 x1 s.2 with
        | none => rw [hz] at e1; cases e1
        | some z =>
          rw [hz] at e1
          cases e1
      · rw [if_neg c2] at e1
        cases hq1 : (d_X8_levelsIn s.1 x5 s.2) with
        | none => rw [hq1] at e1; cases e1
        | some q1 =>
          rw [hq1, Option.bind_some] at e1
          by_cases c3 : ¬ (Int32.toInt (lg_cmp (q1 &&& x3) (0 : Int64))) = 0
          · rw [if_pos c3] at e1
            cases e1
            exact hI
          · rw [if_neg c3] at e1
            by_cases c4 : (Int32.toInt (lg_cmp (q1 &&& x1) (0 : Int64))) = 0
            · rw [if_pos c4] at e1
              cases e1
              exact hI
            · rw [if_neg c4] at e1
              cases hq2 : (d_X1_isPrime s.1 q1 x3 x5 s.2) with
              | none => rw [hq2] at e1; cases e1
              | some q2 =>
                rw [hq2, Option.bind_some] at e1
                by_cases c5 : (Int32.toInt q2) = 0
                · rw [if_pos c5] at e1
                  cases e1
                  exact hI
                · rw [if_neg c5] at e1
                  cases hq3 : (d_X8_lettersOf s.1 x5 (dc_wi s.2 (x0 + 2) (Int32.toNatClampNeg (s.2.1 x0 1)) s.1)) with
                  | none => rw [hq3] at e1; cases e1
                  | some q3 =>
                    rw [hq3, Option.bind_some] at e1
                    cases e1
                    exact (cp_wi (cp_wl (cp_wi (cp_wi hI (fun q => by unfold cpc; omega)) (fun q => by unfold cpc; omega)) (fun q => by unfold cpc; omega)) (fun q => by first | exact hx q _ | (unfold cpc; omega)))
  · unfold d_X1_gatherPrimes_l8s d_X1_gatherPrimes_l8b at e1
    by_cases c1 : (Int32.toInt x6) ≤ (Int32.toInt s.1)
    · rw [if_pos c1] at e1
      cases hz : d_X1_gatherPrimes_b121 x0 x1 s.2 with
      | none => rw [hz] at e1; cases e1
      | some z =>
        rw [hz] at e1
        cases e1
        exact cp_X1_gatherPrimes_b121 hx hI hz
    · rw [if_neg c1] at e1
      by_cases c2 : 729 ≤ (Int32.toInt s.1)
      · rw [if_pos c2] at e1
        cases hz : d_X1_gatherPrimes_b121 x0 x1 s.2 with
        | none => rw [hz] at e1; cases e1
        | some z =>
          rw [hz] at e1
          cases e1
          exact cp_X1_gatherPrimes_b121 hx hI hz
      · rw [if_neg c2] at e1
        cases hq1 : (d_X8_levelsIn s.1 x5 s.2) with
        | none => rw [hq1] at e1; cases e1
        | some q1 =>
          rw [hq1, Option.bind_some] at e1
          by_cases c3 : ¬ (Int32.toInt (lg_cmp (q1 &&& x3) (0 : Int64))) = 0
          · rw [if_pos c3] at e1
            cases e1
          · rw [if_neg c3] at e1
            by_cases c4 : (Int32.toInt (lg_cmp (q1 &&& x1) (0 : Int64))) = 0
            · rw [if_pos c4] at e1
              cases e1
            · rw [if_neg c4] at e1
              cases hq2 : (d_X1_isPrime s.1 q1 x3 x5 s.2) with
              | none => rw [hq2] at e1; cases e1
              | some q2 =>
                rw [hq2, Option.bind_some] at e1
                by_cases c5 : (Int32.toInt q2) = 0
                · rw [if_pos c5] at e1
                  cases e1
                · rw [if_neg c5] at e1
                  cases hq3 : (d_X8_lettersOf s.1 x5 (dc_wi s.2 (x0 + 2) (Int32.toNatClampNeg (s.2.1 x0 1)) s.1)) with
                  | none => rw [hq3] at e1; cases e1
                  | some q3 =>
                    rw [hq3, Option.bind_some] at e1
                    cases e1
theorem cp_X1_gatherPrimes {m : dc_M} {a b : Nat} {c0 : dc_M} {x0 : Nat} {x1 : Int64} {x3 : Int64} {x5 : Int32} {x6 : Int32} {e : dc_M} (hx : x0 = 21) (hD : CP a b c0 m) (h : d_X1_gatherPrimes x0 x1 x3 x5 x6 m = some e) : CP a b c0 e := by
  unfold d_X1_gatherPrimes at h
  exact cp_X1_gatherPrimes_l8 hx (cp_wi hD (fun q => by first | exact hx q _ | (unfold cpc; omega))) h
theorem cp_X8_solve_l79 {m : dc_M} {a b : Nat} {c0 : dc_M} {x0 : Nat} {x1 : Int32} {x2 : Int32} {e : dc_M} (hx : x0 = 15) (hD : CP a b c0 m) (h : d_X8_solve_l79 x0 x1 x2 m = some e) : CP a b c0 e := by
  unfold d_X8_solve_l79 at h
  refine dc_lp_inv (fun s => CP a b c0 (s.2)) (fun e => CP a b c0 e) (fun s s' hI e1 => ?_) (fun s e' hI e1 => ?_) hD h
  · unfold d_X8_solve_l79s d_X8_solve_l79b at e1
    by_cases c1 : (Int32.toInt (s.2.1 (x0 + 3) (Int32.toNatClampNeg x1))) ≤ (Int32.toInt s.1)
    · rw [if_pos c1] at e1
      cases e1
    · rw [if_neg c1] at e1
      cases hq1 : (d_X8_lettersOf ((dc_wi s.2 (x0 + 5) (Int32.toNatClampNeg ((x1 * (32 : Int32)) + s.1)) (s.2.1 ((x0 + 6) + 1) (Int32.toNatClampNeg s.1))).1 ((x0 + 6) + 1) (Int32.toNatClampNeg s.1)) ((dc_wi s.2 (x0 + 5) (Int32.toNatClampNeg ((x1 * (32 : Int32)) + s.1)) (s.2.1 ((x0 + 6) + 1) (Int32.toNatClampNeg s.1))).1 x0 6) (dc_wi s.2 (x0 + 5) (Int32.toNatClampNeg ((x1 * (32 : Int32)) + s.1)) (s.2.1 ((x0 + 6) + 1) (Int32.toNatClampNeg s.1)))) with
      | none => rw [hq1] at e1; cases e1
      | some q1 =>
        rw [hq1, Option.bind_some] at e1
        cases e1
        exact (cp_wi (cp_wi hI (fun q => by unfold cpc; omega)) (fun q => by unfold cpc; omega))
  · unfold d_X8_solve_l79s d_X8_solve_l79b at e1
    by_cases c1 : (Int32.toInt (s.2.1 (x0 + 3) (Int32.toNatClampNeg x1))) ≤ (Int32.toInt s.1)
    · rw [if_pos c1] at e1
      cases e1
      exact hI
    · rw [if_neg c1] at e1
      cases hq1 : (d_X8_lettersOf ((dc_wi s.2 (x0 + 5) (Int32.toNatClampNeg ((x1 * (32 : Int32)) + s.1)) (s.2.1 ((x0 + 6) + 1) (Int32.toNatClampNeg s.1))).1 ((x0 + 6) + 1) (Int32.toNatClampNeg s.1)) ((dc_wi s.2 (x0 + 5) (Int32.toNatClampNeg ((x1 * (32 : Int32)) + s.1)) (s.2.1 ((x0 + 6) + 1) (Int32.toNatClampNeg s.1))).1 x0 6) (dc_wi s.2 (x0 + 5) (Int32.toNatClampNeg ((x1 * (32 : Int32)) + s.1)) (s.2.1 ((x0 + 6) + 1) (Int32.toNatClampNeg s.1)))) with
      | none => rw [hq1] at e1; cases e1
      | some q1 =>
        rw [hq1, Option.bind_some] at e1
        cases e1
theorem cp_X8_solve {m : dc_M} {a b : Nat} {c0 : dc_M} {x0 : Nat} {x1 : Int32} {e : dc_M} (hx : x0 = 15) (hD : CP a b c0 m) (h : d_X8_solve x0 x1 m = some e) : CP a b c0 e := by
  unfold d_X8_solve at h
  by_cases c1 : (Int32.toInt (((m.1 x0 8) >>> (x1 &&& 31)) &&& (1 : Int32))) = 0
  · rw [if_pos c1] at h
    cases hq1 : (d_X1_gatherPrimes (x0 + 6) ((dc_wi m x0 8 ((m.1 x0 8) ||| ((1 : Int32) <<< (x1 &&& 31)))).2.1 (x0 + 1) (Int32.toNatClampNeg x1)) ((dc_wi m x0 8 ((m.1 x0 8) ||| ((1 : Int32) <<< (x1 &&& 31)))).2.1 (x0 + 2) (Int32.toNatClampNeg x1)) ((dc_wi m x0 8 ((m.1 x0 8) ||| ((1 : Int32) <<< (x1 &&& 31)))).1 x0 6) ((dc_wi m x0 8 ((m.1 x0 8) ||| ((1 : Int32) <<< (x1 &&& 31)))).1 x0 7) (dc_wi m x0 8 ((m.1 x0 8) ||| ((1 : Int32) <<< (x1 &&& 31))))) with
    | none => rw [hq1] at h; cases h
    | some q1 =>
      rw [hq1, Option.bind_some] at h
      have dq1 := cp_X1_gatherPrimes (by omega) (cp_wi hD (fun q => by first | exact hx q _ | (unfold cpc; omega))) hq1
      cases hq2 : (d_X1_choose (x0 + 6) (q1.2.1 (x0 + 1) (Int32.toNatClampNeg x1)) q1) with
      | none => rw [hq2] at h; cases h
      | some q2 =>
        rw [hq2, Option.bind_some] at h
        have dq2 := cp_X1_choose (by omega) dq1 hq2
        exact cp_X8_solve_l79 hx (cp_wi (cp_wi dq2 (fun q => by unfold cpc; omega)) (fun q => by unfold cpc; omega)) h
  · rw [if_neg c1] at h
    cases h
    exact hD
theorem cp_X9_makes_b28 {m : dc_M} {a b : Nat} {c0 : dc_M} {x1 : Int32} {x2 : Int32} {e : (Int32 × dc_M)} (hD : CP a b c0 m) (h : d_X9_makes_b28 1 x1 x2 m = some e) : CP a b c0 (e.2) := by
  unfold d_X9_makes_b28 at h
  cases hq1 : (d_X9_canBeMade 1 x1 m) with
  | none => rw [hq1] at h; cases h
  | some q1 =>
    rw [hq1, Option.bind_some] at h
    have dq1 := cp_X9_canBeMade hD hq1
    by_cases c1 : ¬ (Int32.toInt q1.1) = 0
    · rw [if_pos c1] at h
      cases hq2 : (d_X8_solve (1 + 14) x1 q1.2) with
      | none => rw [hq2] at h; cases h
      | some q2 =>
        rw [hq2, Option.bind_some] at h
        have dq2 := cp_X8_solve (by omega) dq1 hq2
        by_cases c2 : (Int32.toInt x2) = 0
        · rw [if_pos c2] at h
          cases h
          exact dq2
        rw [if_neg c2] at h
        by_cases c3 : (Int32.toInt x2) = 1
        · rw [if_pos c3] at h
          cases h
          exact dq2
        rw [if_neg c3] at h
        cases h
        exact dq2
    · rw [if_neg c1] at h
      cases h
      exact dq1
theorem cp_X9_makes {m : dc_M} {a b : Nat} {c0 : dc_M} {x1 : Int32} {x2 : Int32} {e : (Int32 × dc_M)} (hD : CP a b c0 m) (h : d_X9_makes 1 x1 x2 m = some e) : CP a b c0 (e.2) := by
  unfold d_X9_makes at h
  by_cases c1 : (Int32.toInt (d_X3_isMade (m.2.2.1 1 7) x1 m)) = 0
  · rw [if_pos c1] at h
    cases h
    exact hD
  · rw [if_neg c1] at h
    by_cases c2 : (Int32.toInt x2) < 0
    · rw [if_pos c2] at h
      cases h
      exact hD
    · rw [if_neg c2] at h
      by_cases c3 : (Int32.toInt x2) ≤ 1
      · rw [if_pos c3] at h
        exact cp_X9_makes_b28  hD h
      · rw [if_neg c3] at h
        by_cases c4 : 10 ≤ (Int32.toInt x2)
        · rw [if_pos c4] at h
          exact cp_X9_makes_b28  hD h
        · rw [if_neg c4] at h
          cases h
          exact hD
theorem cp_X9_cost_l14 {m : dc_M} {a b : Nat} {c0 : dc_M} {x1 : Int32} {x2 : Int32} {e : (Int32 × dc_M)} (hD : CP a b c0 m) (h : d_X9_cost_l14 1 x1 x2 m = some e) : CP a b c0 (e.2) := by
  unfold d_X9_cost_l14 at h
  refine dc_lp_inv (fun s => CP a b c0 (s.2.2)) (fun e => CP a b c0 (e.2)) (fun s s' hI e1 => ?_) (fun s e' hI e1 => ?_) hD h
  · unfold d_X9_cost_l14s d_X9_cost_l14b at e1
    by_cases c1 : (Int32.toInt (s.2.2.1 (s.2.2.2.2.1 1 7) 0)) ≤ (Int32.toInt s.2.1)
    · rw [if_pos c1] at e1
      cases e1
    · rw [if_neg c1] at e1
      by_cases c2 : ¬ (Int32.toInt (d_X3_isMade (s.2.2.2.2.1 1 7) s.2.1 s.2.2)) = 0
      · rw [if_pos c2] at e1
        cases hq1 : (d_X9_canBeMade 1 s.2.1 s.2.2) with
        | none => rw [hq1] at e1; cases e1
        | some q1 =>
          rw [hq1, Option.bind_some] at e1
          have dq1 := cp_X9_canBeMade hI hq1
          by_cases c3 : ¬ (Int32.toInt q1.1) = 0
          · rw [if_pos c3] at e1
            cases hq2 : (d_X8_solve (1 + 14) s.2.1 q1.2) with
            | none => rw [hq2] at e1; cases e1
            | some q2 =>
              rw [hq2, Option.bind_some] at e1
              have dq2 := cp_X8_solve (by omega) dq1 hq2
              cases e1
              exact dq2
          · rw [if_neg c3] at e1
            cases e1
      · rw [if_neg c2] at e1
        cases e1
        exact hI
  · unfold d_X9_cost_l14s d_X9_cost_l14b at e1
    by_cases c1 : (Int32.toInt (s.2.2.1 (s.2.2.2.2.1 1 7) 0)) ≤ (Int32.toInt s.2.1)
    · rw [if_pos c1] at e1
      cases e1
      exact hI
    · rw [if_neg c1] at e1
      by_cases c2 : ¬ (Int32.toInt (d_X3_isMade (s.2.2.2.2.1 1 7) s.2.1 s.2.2)) = 0
      · rw [if_pos c2] at e1
        cases hq1 : (d_X9_canBeMade 1 s.2.1 s.2.2) with
        | none => rw [hq1] at e1; cases e1
        | some q1 =>
          rw [hq1, Option.bind_some] at e1
          have dq1 := cp_X9_canBeMade hI hq1
          by_cases c3 : ¬ (Int32.toInt q1.1) = 0
          · rw [if_pos c3] at e1
            cases hq2 : (d_X8_solve (1 + 14) s.2.1 q1.2) with
            | none => rw [hq2] at e1; cases e1
            | some q2 =>
              rw [hq2, Option.bind_some] at e1
              have dq2 := cp_X8_solve (by omega) dq1 hq2
              cases e1
          · rw [if_neg c3] at e1
            cases e1
            exact dq1
      · rw [if_neg c2] at e1
        cases e1
theorem cp_X9_cost {m : dc_M} {a b : Nat} {c0 : dc_M}  {e : (Int32 × dc_M)} (hD : CP a b c0 m) (h : d_X9_cost 1 m = some e) : CP a b c0 (e.2) := by
  unfold d_X9_cost at h
  cases hq1 : (d_X9_isRight 1 m) with
  | none => rw [hq1] at h; cases h
  | some q1 =>
    rw [hq1, Option.bind_some] at h
    have dq1 := cp_X9_isRight hD hq1
    by_cases c1 : ¬ (Int32.toInt q1.1) = 0
    · rw [if_pos c1] at h
      exact cp_X9_cost_l14  dq1 h
    · rw [if_neg c1] at h
      cases h
      exact dq1
