/-! ===== what the search of covers, and gathering, leave alone (written by a program) ===== -/
theorem fv_X1_choose_l19 {m : dc_M} {a b : Nat} {c0 : dc_M} {x0 : Nat} {x3 : Int64} {x5 : Int32} {x6 : Int32} {x7 : Int32} {e : (Int32 × dc_M)} (hx : x0 = 21) (hD : FV a b c0 m) (h : d_X1_choose_l19 x0 x3 x5 x6 x7 m = some e) : FV a b c0 (e.2) := by
  unfold d_X1_choose_l19 at h
  refine dc_lp_inv (fun s => FV a b c0 (s.2.2.2.2)) (fun e => FV a b c0 (e.2)) (fun s s' hI e1 => ?_) (fun s e' hI e1 => ?_) hD h
  · unfold d_X1_choose_l19s d_X1_choose_l19b at e1
    by_cases c1 : 64 ≤ (Int32.toInt s.2.2.2.1)
    · rw [if_pos c1] at e1
      cases e1
    · rw [if_neg c1] at e1
      by_cases c2 : 32 ≤ (Int32.toInt s.2.2.1)
      · rw [if_pos c2] at e1
        cases e1
      · rw [if_neg c2] at e1
        by_cases c3 : ¬ (Int32.toInt (lg_cmp ((((s.1).toUInt64 >>> ((Int32.toInt64 s.2.2.2.1).toUInt64 &&& Int64.toUInt64 63)).toInt64) &&& (1 : Int64)) (0 : Int64))) = 0
        · rw [if_pos c3] at e1
          cases hq1 : (d_X1_firstThatCanDo x0 s.1 s.2.2.2.1 s.2.1 s.2.2.2.2) with
          | none => rw [hq1] at e1; cases e1
          | some q1 =>
            rw [hq1, Option.bind_some] at e1
            by_cases c4 : 0 ≤ (Int32.toInt q1)
            · rw [if_pos c4] at e1
              cases e1
              exact (fv_wi hI (fun q => by unfold fvc; omega))
            · rw [if_neg c4] at e1
              cases e1
        · rw [if_neg c3] at e1
          cases e1
          exact hI
  · unfold d_X1_choose_l19s d_X1_choose_l19b at e1
    by_cases c1 : 64 ≤ (Int32.toInt s.2.2.2.1)
    · rw [if_pos c1] at e1
      cases e1
      exact hI
    · rw [if_neg c1] at e1
      by_cases c2 : 32 ≤ (Int32.toInt s.2.2.1)
      · rw [if_pos c2] at e1
        cases e1
        exact hI
      · rw [if_neg c2] at e1
        by_cases c3 : ¬ (Int32.toInt (lg_cmp ((((s.1).toUInt64 >>> ((Int32.toInt64 s.2.2.2.1).toUInt64 &&& Int64.toUInt64 63)).toInt64) &&& (1 : Int64)) (0 : Int64))) = 0
        · rw [if_pos c3] at e1
          cases hq1 : (d_X1_firstThatCanDo x0 s.1 s.2.2.2.1 s.2.1 s.2.2.2.2) with
          | none => rw [hq1] at e1; cases e1
          | some q1 =>
            rw [hq1, Option.bind_some] at e1
            by_cases c4 : 0 ≤ (Int32.toInt q1)
            · rw [if_pos c4] at e1
              cases e1
            · rw [if_neg c4] at e1
              cases e1
              exact hI
        · rw [if_neg c3] at e1
          cases e1
theorem fv_X1_choose {m : dc_M} {a b : Nat} {c0 : dc_M} {x0 : Nat} {x1 : Int64} {e : (Int32 × dc_M)} (hx : x0 = 21) (hD : FV a b c0 m) (h : d_X1_choose x0 x1 m = some e) : FV a b c0 (e.2) := by
  unfold d_X1_choose at h
  cases hq1 : (d_X1_leastWeight x0 x1 (8448 : Int32) (0 : Int32) m) with
  | none => rw [hq1] at h; cases h
  | some q1 =>
    rw [hq1, Option.bind_some] at h
    exact fv_X1_choose_l19 hx hD h
theorem fv_X1_putInOrder_l5 {m : dc_M} {a b : Nat} {c0 : dc_M} {x0 : Nat} {x1 : Int32} {x2 : Int32} {e : dc_M} (hx : x0 = 21) (hD : FV a b c0 m) (h : d_X1_putInOrder_l5 x0 x1 x2 m = some e) : FV a b c0 e := by
  unfold d_X1_putInOrder_l5 at h
  refine dc_lp_inv (fun s => FV a b c0 (s.2)) (fun e => FV a b c0 e) (fun s s' hI e1 => ?_) (fun s e' hI e1 => ?_) hD h
  · obtain ⟨sb, sm⟩ := s
    have hI : FV a b c0 sm := hI
    have e1 : d_X1_putInOrder_l5b x0 x1 sb sm = some (.inl s') := e1
    unfold d_X1_putInOrder_l5b at e1
    by_cases c1 : (Int32.toInt sb) ≤ 0
    · rw [if_pos c1] at e1
      exact (oi_rl e1).elim
    · rw [if_neg c1] at e1
      by_cases c2 : (Int32.toInt (sm.1 (x0 + 5) (Int32.toNatClampNeg (sm.1 (x0 + 8) (Int32.toNatClampNeg (sb - (1 : Int32))))))) ≤ (Int32.toInt (sm.1 (x0 + 5) (Int32.toNatClampNeg x1)))
      · rw [if_pos c2] at e1
        exact (oi_rl e1).elim
      · rw [if_neg c2] at e1
        exact oi_l (fun s : Int32 × dc_M => FV a b c0 s.2) e1 (fv_wi hI (fun q => by unfold fvc; omega))
  · unfold d_X1_putInOrder_l5s d_X1_putInOrder_l5b at e1
    by_cases c1 : (Int32.toInt s.1) ≤ 0
    · rw [if_pos c1] at e1
      cases e1
      exact (fv_wi (fv_wi hI (fun q => by unfold fvc; omega)) (fun q => by first | exact hx q _ | (unfold fvc; omega)))
    · rw [if_neg c1] at e1
      by_cases c2 : (Int32.toInt (s.2.1 (x0 + 5) (Int32.toNatClampNeg (s.2.1 (x0 + 8) (Int32.toNatClampNeg (s.1 - (1 : Int32))))))) ≤ (Int32.toInt (s.2.1 (x0 + 5) (Int32.toNatClampNeg x1)))
      · rw [if_pos c2] at e1
        cases e1
        exact (fv_wi (fv_wi hI (fun q => by unfold fvc; omega)) (fun q => by first | exact hx q _ | (unfold fvc; omega)))
      · rw [if_neg c2] at e1
        cases e1
theorem fv_X1_putInOrder {m : dc_M} {a b : Nat} {c0 : dc_M} {x0 : Nat} {x1 : Int32} {e : dc_M} (hx : x0 = 21) (hD : FV a b c0 m) (h : d_X1_putInOrder x0 x1 m = some e) : FV a b c0 e := by
  unfold d_X1_putInOrder at h
  exact fv_X1_putInOrder_l5 hx hD h
theorem fv_X1_weighLevels_b131 {m : dc_M} {a b : Nat} {c0 : dc_M} {x0 : Nat} {x1 : Int64} {x3 : Int32} {u : ((Int32 × dc_M) ⊕ dc_M)} (hx : x0 = 21) (hD : FV a b c0 m) (h : d_X1_weighLevels_b131 x0 x1 x3 m = some u) : (∀ s', u = .inl s' → FV a b c0 (s'.2)) ∧ (∀ e, u = .inr e → FV a b c0 e) := by
  unfold d_X1_weighLevels_b131 at h
  cases hq1 : (d_X1_putInOrder x0 x3 m) with
  | none => rw [hq1] at h; cases h
  | some q1 =>
    rw [hq1, Option.bind_some] at h
    have dq1 := fv_X1_putInOrder hx hD hq1
    cases h
    exact ⟨fun _ q => (by cases q; exact dq1), fun _ q => (by cases q)⟩
theorem fv_X1_weighLevels_l52 {m : dc_M} {a b : Nat} {c0 : dc_M} {x0 : Nat} {x1 : Int64} {x3 : Int32} {x4 : Int32} {u : ((Int32 × dc_M) ⊕ dc_M)} (hx : x0 = 21) (hD : FV a b c0 m) (h : d_X1_weighLevels_l52 x0 x1 x3 x4 m = some u) : (∀ s', u = .inl s' → FV a b c0 (s'.2)) ∧ (∀ e, u = .inr e → FV a b c0 e) := by
  unfold d_X1_weighLevels_l52 at h
  refine dc_lp_inv (fun s => FV a b c0 (s.2)) (fun u => (∀ s', u = .inl s' → FV a b c0 (s'.2)) ∧ (∀ e, u = .inr e → FV a b c0 e)) (fun s s' hI e1 => ?_) (fun s e' hI e1 => ?_) hD h
  · unfold d_X1_weighLevels_l52s d_X1_weighLevels_l52b at e1
    by_cases c1 : (Int32.toInt (s.2.1 x0 1)) ≤ (Int32.toInt s.1)
    · rw [if_pos c1] at e1
      cases hz : d_X1_weighLevels_b131 x0 x1 x3 s.2 with
      | none => rw [hz] at e1; cases e1
      | some z =>
        rw [hz] at e1
        cases e1
    · rw [if_neg c1] at e1
      by_cases c2 : (Int32.toInt (lg_cmp (((((s.2.2.1 (x0 + 4) (Int32.toNatClampNeg s.1))).toUInt64 >>> ((Int32.toInt64 x3).toUInt64 &&& Int64.toUInt64 63)).toInt64) &&& (1 : Int64)) (0 : Int64))) = 0
      · rw [if_pos c2] at e1
        cases e1
        exact hI
      · rw [if_neg c2] at e1
        cases e1
        exact (fv_wl (fv_wi (fv_wi hI (fun q => by unfold fvc; omega)) (fun q => by unfold fvc; omega)) (fun q => by unfold fvc; omega))
  · unfold d_X1_weighLevels_l52s d_X1_weighLevels_l52b at e1
    by_cases c1 : (Int32.toInt (s.2.1 x0 1)) ≤ (Int32.toInt s.1)
    · rw [if_pos c1] at e1
      cases hz : d_X1_weighLevels_b131 x0 x1 x3 s.2 with
      | none => rw [hz] at e1; cases e1
      | some z =>
        rw [hz] at e1
        cases e1
        exact fv_X1_weighLevels_b131 hx hI hz
    · rw [if_neg c1] at e1
      by_cases c2 : (Int32.toInt (lg_cmp (((((s.2.2.1 (x0 + 4) (Int32.toNatClampNeg s.1))).toUInt64 >>> ((Int32.toInt64 x3).toUInt64 &&& Int64.toUInt64 63)).toInt64) &&& (1 : Int64)) (0 : Int64))) = 0
      · rw [if_pos c2] at e1
        cases e1
      · rw [if_neg c2] at e1
        cases e1
theorem fv_X1_weighLevels_l7 {m : dc_M} {a b : Nat} {c0 : dc_M} {x0 : Nat} {x1 : Int64} {x3 : Int32} {e : dc_M} (hx : x0 = 21) (hD : FV a b c0 m) (h : d_X1_weighLevels_l7 x0 x1 x3 m = some e) : FV a b c0 e := by
  unfold d_X1_weighLevels_l7 at h
  refine dc_lp_inv (fun s => FV a b c0 (s.2)) (fun e => FV a b c0 e) (fun s s' hI e1 => ?_) (fun s e' hI e1 => ?_) hD h
  · unfold d_X1_weighLevels_l7s d_X1_weighLevels_l7b at e1
    by_cases c1 : 64 ≤ (Int32.toInt s.1)
    · rw [if_pos c1] at e1
      cases e1
    · rw [if_neg c1] at e1
      by_cases c2 : ¬ (Int32.toInt (lg_cmp ((((x1).toUInt64 >>> ((Int32.toInt64 s.1).toUInt64 &&& Int64.toUInt64 63)).toInt64) &&& (1 : Int64)) (0 : Int64))) = 0
      · rw [if_pos c2] at e1
        exact (fv_X1_weighLevels_l52 hx (fv_wl (fv_wi (fv_wi hI (fun q => by unfold fvc; omega)) (fun q => by unfold fvc; omega)) (fun q => by unfold fvc; omega)) e1).1 _ rfl
      · rw [if_neg c2] at e1
        cases e1
        exact (fv_wl (fv_wi (fv_wi hI (fun q => by unfold fvc; omega)) (fun q => by unfold fvc; omega)) (fun q => by unfold fvc; omega))
  · unfold d_X1_weighLevels_l7s d_X1_weighLevels_l7b at e1
    by_cases c1 : 64 ≤ (Int32.toInt s.1)
    · rw [if_pos c1] at e1
      cases e1
      exact hI
    · rw [if_neg c1] at e1
      by_cases c2 : ¬ (Int32.toInt (lg_cmp ((((x1).toUInt64 >>> ((Int32.toInt64 s.1).toUInt64 &&& Int64.toUInt64 63)).toInt64) &&& (1 : Int64)) (0 : Int64))) = 0
      · rw [if_pos c2] at e1
        exact (fv_X1_weighLevels_l52 hx (fv_wl (fv_wi (fv_wi hI (fun q => by unfold fvc; omega)) (fun q => by unfold fvc; omega)) (fun q => by unfold fvc; omega)) e1).2 _ rfl
      · rw [if_neg c2] at e1
        cases e1
theorem fv_X1_weighLevels {m : dc_M} {a b : Nat} {c0 : dc_M} {x0 : Nat} {x1 : Int64} {e : dc_M} (hx : x0 = 21) (hD : FV a b c0 m) (h : d_X1_weighLevels x0 x1 m = some e) : FV a b c0 e := by
  unfold d_X1_weighLevels at h
  exact fv_X1_weighLevels_l7 hx (fv_wi hD (fun q => by first | exact hx q _ | (unfold fvc; omega))) h
theorem fv_X1_gatherPrimes_b121 {m : dc_M} {a b : Nat} {c0 : dc_M} {x0 : Nat} {x1 : Int64} {e : dc_M} (hx : x0 = 21) (hD : FV a b c0 m) (h : d_X1_gatherPrimes_b121 x0 x1 m = some e) : FV a b c0 e := by
  unfold d_X1_gatherPrimes_b121 at h
  cases hq1 : (d_X1_weighLevels x0 x1 m) with
  | none => rw [hq1] at h; cases h
  | some q1 =>
    rw [hq1, Option.bind_some] at h
    have dq1 := fv_X1_weighLevels hx hD hq1
    cases h
    exact dq1
theorem fv_X1_gatherPrimes_l8 {m : dc_M} {a b : Nat} {c0 : dc_M} {x0 : Nat} {x1 : Int64} {x3 : Int64} {x5 : Int32} {x6 : Int32} {x7 : Int32} {e : dc_M} (hx : x0 = 21) (hD : FV a b c0 m) (h : d_X1_gatherPrimes_l8 x0 x1 x3 x5 x6 x7 m = some e) : FV a b c0 e := by
  unfold d_X1_gatherPrimes_l8 at h
  refine dc_lp_inv (fun s => FV a b c0 (s.2)) (fun e => FV a b c0 e) (fun s s' hI e1 => ?_) (fun s e' hI e1 => ?_) hD h
  · unfold d_X1_gatherPrimes_l8s d_X1_gatherPrimes_l8b at e1
    by_cases c1 : (Int32.toInt x6) ≤ (Int32.toInt s.1)
    · rw [if_pos c1] at e1
      cases hz : d_X1_gatherPrimes_b121 x0 x1 s.2 with
      | none => rw [hz] at e1; cases e1
      | some z =>
        rw [hz] at e1
        cases e1
    · rw [if_neg c1] at e1
      by_cases c2 : 729 ≤ (Int32.toInt s.1)
      · rw [if_pos c2] at e1
        cases hz : d_X1_gatherPrimes_b121 x0 x1 s.2 with
        | none => rw [hz] at e1; cases e1
        | some z =>
          rw [hz] at e1
          cases e1
      · rw [if_neg c2] at e1
        cases hq1 : (d_X8_levelsIn s.1 x5 s.2) with
        | none => rw [hq1] at e1; cases e1
        | some q1 =>
          rw [hq1, Option.bind_some] at e1
          by_cases c3 : ¬ (Int32.toInt (lg_cmp (q1 &&& x3) (0 : Int64))) = 0
          · rw [if_pos c3] at e1
            cases e1
            exact hI
          · rw [if_neg c3] at e1
            by_cases c4 : (Int32.toInt (lg_cmp (q1 &&& x1) (0 : Int64))) = 0
            · rw [if_pos c4] at e1
              cases e1
              exact hI
            · rw [if_neg c4] at e1
              cases hq2 : (d_X1_isPrime s.1 q1 x3 x5 s.2) with
              | none => rw [hq2] at e1; cases e1
              | some q2 =>
                rw [hq2, Option.bind_some] at e1
                by_cases c5 : (Int32.toInt q2) = 0
                · rw [if_pos c5] at e1
                  cases e1
                  exact hI
                · rw [if_neg c5] at e1
                  cases hq3 : (d_X8_lettersOf s.1 x5 (dc_wi s.2 (x0 + 2) (Int32.toNatClampNeg (s.2.1 x0 1)) s.1)) with
                  | none => rw [hq3] at e1; cases e1
                  | some q3 =>
                    rw [hq3, Option.bind_some] at e1
                    cases e1
                    exact (fv_wi (fv_wl (fv_wi (fv_wi hI (fun q => by unfold fvc; omega)) (fun q => by unfold fvc; omega)) (fun q => by unfold fvc; omega)) (fun q => by first | exact hx q _ | (unfold fvc; omega)))
  · unfold d_X1_gatherPrimes_l8s d_X1_gatherPrimes_l8b at e1
    by_cases c1 : (Int32.toInt x6) ≤ (Int32.toInt s.1)
    · rw [if_pos c1] at e1
      cases hz : d_X1_gatherPrimes_b121 x0 x1 s.2 with
      | none => rw [hz] at e1; cases e1
      | some z =>
        rw [hz] at e1
        cases e1
        exact fv_X1_gatherPrimes_b121 hx hI hz
    · rw [if_neg c1] at e1
      by_cases c2 : 729 ≤ (Int32.toInt s.1)
      · rw [if_pos c2] at e1
        cases hz : d_X1_gatherPrimes_b121 x0 x1 s.2 with
        | none => rw [hz] at e1; cases e1
        | some z =>
          rw [hz] at e1
          cases e1
          exact fv_X1_gatherPrimes_b121 hx hI hz
      · rw [if_neg c2] at e1
        cases hq1 : (d_X8_levelsIn s.1 x5 s.2) with
        | none => rw [hq1] at e1; cases e1
        | some q1 =>
          rw [hq1, Option.bind_some] at e1
          by_cases c3 : ¬ (Int32.toInt (lg_cmp (q1 &&& x3) (0 : Int64))) = 0
          · rw [if_pos c3] at e1
            cases e1
          · rw [if_neg c3] at e1
            by_cases c4 : (Int32.toInt (lg_cmp (q1 &&& x1) (0 : Int64))) = 0
            · rw [if_pos c4] at e1
              cases e1
            · rw [if_neg c4] at e1
              cases hq2 : (d_X1_isPrime s.1 q1 x3 x5 s.2) with
              | none => rw [hq2] at e1; cases e1
              | some q2 =>
                rw [hq2, Option.bind_some] at e1
                by_cases c5 : (Int32.toInt q2) = 0
                · rw [if_pos c5] at e1
                  cases e1
                · rw [if_neg c5] at e1
                  cases hq3 : (d_X8_lettersOf s.1 x5 (dc_wi s.2 (x0 + 2) (Int32.toNatClampNeg (s.2.1 x0 1)) s.1)) with
                  | none => rw [hq3] at e1; cases e1
                  | some q3 =>
                    rw [hq3, Option.bind_some] at e1
                    cases e1
theorem fv_X1_gatherPrimes {m : dc_M} {a b : Nat} {c0 : dc_M} {x0 : Nat} {x1 : Int64} {x3 : Int64} {x5 : Int32} {x6 : Int32} {e : dc_M} (hx : x0 = 21) (hD : FV a b c0 m) (h : d_X1_gatherPrimes x0 x1 x3 x5 x6 m = some e) : FV a b c0 e := by
  unfold d_X1_gatherPrimes at h
  exact fv_X1_gatherPrimes_l8 hx (fv_wi hD (fun q => by first | exact hx q _ | (unfold fvc; omega))) h
theorem ge_X8_gather_l85 {m : dc_M} {a b : Nat} {c0 : dc_M} {x0 : Nat} {x2 : Nat} {x3 : Int32} {x4 : Int64} {x6 : Int32} {x7 : Int32} {u : ((Int32 × dc_M) ⊕ dc_M)} (hx : x0 = 15) (hD : GE a b c0 m) (h : d_X8_gather_l85 x0 x2 x3 x4 x6 x7 m = some u) : (∀ s', u = .inl s' → GE a b c0 (s'.2)) ∧ (∀ e, u = .inr e → GE a b c0 e) := by
  unfold d_X8_gather_l85 at h
  refine dc_lp_inv (fun s => GE a b c0 (s.2)) (fun u => (∀ s', u = .inl s' → GE a b c0 (s'.2)) ∧ (∀ e, u = .inr e → GE a b c0 e)) (fun s s' hI e1 => ?_) (fun s e' hI e1 => ?_) hD h
  · unfold d_X8_gather_l85s d_X8_gather_l85b at e1
    by_cases c1 : (Int32.toInt (s.2.1 x0 6)) ≤ (Int32.toInt s.1)
    · rw [if_pos c1] at e1
      cases e1
    · rw [if_neg c1] at e1
      by_cases c2 : (Int32.toInt ((x6 >>> (s.1 &&& 31)) &&& (1 : Int32))) = 0
      · rw [if_pos c2] at e1
        cases e1
        exact (ge_wl hI (fun q => by unfold gec; omega))
      · rw [if_neg c2] at e1
        cases e1
        exact (ge_wl hI (fun q => by unfold gec; omega))
  · unfold d_X8_gather_l85s d_X8_gather_l85b at e1
    by_cases c1 : (Int32.toInt (s.2.1 x0 6)) ≤ (Int32.toInt s.1)
    · rw [if_pos c1] at e1
      cases e1
      exact ⟨fun _ q => (by cases q; exact hI), fun _ q => (by cases q)⟩
    · rw [if_neg c1] at e1
      by_cases c2 : (Int32.toInt ((x6 >>> (s.1 &&& 31)) &&& (1 : Int32))) = 0
      · rw [if_pos c2] at e1
        cases e1
      · rw [if_neg c2] at e1
        cases e1
theorem ge_X8_gather_l57 {m : dc_M} {a b : Nat} {c0 : dc_M} {x0 : Nat} {x2 : Nat} {x3 : Int32} {e : dc_M} (hx : x0 = 15) (hD : GE a b c0 m) (h : d_X8_gather_l57 x0 x2 x3 m = some e) : GE a b c0 e := by
  unfold d_X8_gather_l57 at h
  refine dc_lp_inv (fun s => GE a b c0 (s.2)) (fun e => GE a b c0 e) (fun s s' hI e1 => ?_) (fun s e' hI e1 => ?_) hD h
  · unfold d_X8_gather_l57s d_X8_gather_l57b at e1
    by_cases c1 : (Int32.toInt (s.2.1 x2 0)) ≤ (Int32.toInt s.1)
    · rw [if_pos c1] at e1
      cases e1
    · rw [if_neg c1] at e1
      exact (ge_X8_gather_l85 hx hI e1).1 _ rfl
  · unfold d_X8_gather_l57s d_X8_gather_l57b at e1
    by_cases c1 : (Int32.toInt (s.2.1 x2 0)) ≤ (Int32.toInt s.1)
    · rw [if_pos c1] at e1
      cases e1
      exact hI
    · rw [if_neg c1] at e1
      exact (ge_X8_gather_l85 hx hI e1).2 _ rfl
theorem ge_X8_gather_l17 {m : dc_M} {a b : Nat} {c0 : dc_M} {x0 : Nat} {x2 : Nat} {x3 : Int32} {e : dc_M} (hx : x0 = 15) (hD : GE a b c0 m) (h : d_X8_gather_l17 x0 x2 x3 m = some e) : GE a b c0 e := by
  unfold d_X8_gather_l17 at h
  refine dc_lp_inv (fun s => GE a b c0 (s.2)) (fun e => GE a b c0 e) (fun s s' hI e1 => ?_) (fun s e' hI e1 => ?_) hD h
  · unfold d_X8_gather_l17s d_X8_gather_l17b at e1
    by_cases c1 : (Int32.toInt (s.2.1 x0 6)) ≤ (Int32.toInt s.1)
    · rw [if_pos c1] at e1
      cases hz : d_X8_gather_l57 x0 x2 (0 : Int32) s.2 with
      | none => rw [hz] at e1; cases e1
      | some z =>
        rw [hz] at e1
        cases e1
    · rw [if_neg c1] at e1
      cases e1
      exact (ge_wl (ge_wl (ge_wi hI (fun q => by first | exact hx q _ | (unfold gec; omega))) (fun q => by unfold gec; omega)) (fun q => by unfold gec; omega))
  · unfold d_X8_gather_l17s d_X8_gather_l17b at e1
    by_cases c1 : (Int32.toInt (s.2.1 x0 6)) ≤ (Int32.toInt s.1)
    · rw [if_pos c1] at e1
      cases hz : d_X8_gather_l57 x0 x2 (0 : Int32) s.2 with
      | none => rw [hz] at e1; cases e1
      | some z =>
        rw [hz] at e1
        cases e1
        exact ge_X8_gather_l57 hx hI hz
    · rw [if_neg c1] at e1
      cases e1
