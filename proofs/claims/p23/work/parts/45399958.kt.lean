/-! ===== beat and time leave the net alone (written by a program) ===== -/
theorem kr_X10_layWays_b265 {m : dc_M} {m0 : dc_M} {x6 : Int32} {x7 : Int32} {x8 : Int32} {x9 : Int64} {s0 : Int32} {u : ((Int32 × dc_M) ⊕ ((Int32 × dc_M) ⊕ ((Int32 × dc_M) ⊕ dc_M)))} (hD : kr m0 m) (h : d_X10_layWays_b265 82 x6 x7 x8 x9 s0 m = some u) : (∀ s', u = .inl s' → kr m0 (s'.2)) ∧ (∀ s', u = Sum.inr (Sum.inl s') → kr m0 (s'.2)) ∧ (∀ s', u = Sum.inr (Sum.inr (Sum.inl s')) → kr m0 (s'.2)) ∧ (∀ e, u = Sum.inr (Sum.inr (Sum.inr e)) → kr m0 e) := by
  unfold d_X10_layWays_b265 at h
  by_cases c1 : (Int32.toInt s0) = 0
  · rw [if_pos c1] at h
    cases h
    exact ⟨fun _ q => (by cases q; exact (kr_wl hD (by unfold krc; omega))), fun _ q => (by cases q), fun _ q => (by cases q), fun _ q => (by cases q)⟩
  · rw [if_neg c1] at h
    by_cases c2 : (Int32.toInt (lg_cmp x9 (m.2.1 (82 + 28) (Int32.toNatClampNeg (((16 : Int32) * x7) + x8))))) ≤ 0
    · rw [if_pos c2] at h
      cases h
      exact ⟨fun _ q => (by cases q; exact (kr_wl hD (by unfold krc; omega))), fun _ q => (by cases q), fun _ q => (by cases q), fun _ q => (by cases q)⟩
    · rw [if_neg c2] at h
      cases h
      exact ⟨fun _ q => (by cases q; exact (kr_wl hD (by unfold krc; omega))), fun _ q => (by cases q), fun _ q => (by cases q), fun _ q => (by cases q)⟩
theorem kr_X10_layWays_l182 {m : dc_M} {m0 : dc_M} {x6 : Int32} {x7 : Int32} {x8 : Int32} {u : ((Int32 × dc_M) ⊕ ((Int32 × dc_M) ⊕ dc_M))} (hD : kr m0 m) (h : d_X10_layWays_l182 82 x6 x7 x8 m = some u) : (∀ s', u = .inl s' → kr m0 (s'.2)) ∧ (∀ s', u = Sum.inr (Sum.inl s') → kr m0 (s'.2)) ∧ (∀ e, u = Sum.inr (Sum.inr e) → kr m0 e) := by
  unfold d_X10_layWays_l182 at h
  refine dc_lp_inv (fun s => kr m0 (s.2)) (fun u => (∀ s', u = .inl s' → kr m0 (s'.2)) ∧ (∀ s', u = Sum.inr (Sum.inl s') → kr m0 (s'.2)) ∧ (∀ e, u = Sum.inr (Sum.inr e) → kr m0 e)) (fun s s' hI e1 => ?_) (fun s e' hI e1 => ?_) hD h
  · unfold d_X10_layWays_l182s d_X10_layWays_l182b at e1
    by_cases c1 : (Int32.toInt (s.2.1 82 3)) ≤ (Int32.toInt s.1)
    · rw [if_pos c1] at e1
      cases e1
    · rw [if_neg c1] at e1
      by_cases c2 : (Int32.toInt (lg_cmp (s.2.2.1 (82 + 28) (Int32.toNatClampNeg (((16 : Int32) * x7) + x6))) (-500000000000 : Int64))) ≤ 0
      · rw [if_pos c2] at e1
        exact (kr_X10_layWays_b265  hI e1).1 _ rfl
      · rw [if_neg c2] at e1
        by_cases c3 : (Int32.toInt (lg_cmp (s.2.2.1 (82 + 28) (Int32.toNatClampNeg (((16 : Int32) * x6) + s.1))) (-500000000000 : Int64))) ≤ 0
        · rw [if_pos c3] at e1
          exact (kr_X10_layWays_b265  hI e1).1 _ rfl
        · rw [if_neg c3] at e1
          exact (kr_X10_layWays_b265  hI e1).1 _ rfl
  · unfold d_X10_layWays_l182s d_X10_layWays_l182b at e1
    by_cases c1 : (Int32.toInt (s.2.1 82 3)) ≤ (Int32.toInt s.1)
    · rw [if_pos c1] at e1
      cases e1
      exact ⟨fun _ q => (by cases q; exact hI), fun _ q => (by cases q), fun _ q => (by cases q)⟩
    · rw [if_neg c1] at e1
      by_cases c2 : (Int32.toInt (lg_cmp (s.2.2.1 (82 + 28) (Int32.toNatClampNeg (((16 : Int32) * x7) + x6))) (-500000000000 : Int64))) ≤ 0
      · rw [if_pos c2] at e1
        exact ⟨fun _ q => (by cases q; exact (kr_X10_layWays_b265  hI e1).2.1 _ rfl), fun _ q => (by cases q; exact (kr_X10_layWays_b265  hI e1).2.2.1 _ rfl), fun _ q => (by cases q; exact (kr_X10_layWays_b265  hI e1).2.2.2 _ rfl)⟩
      · rw [if_neg c2] at e1
        by_cases c3 : (Int32.toInt (lg_cmp (s.2.2.1 (82 + 28) (Int32.toNatClampNeg (((16 : Int32) * x6) + s.1))) (-500000000000 : Int64))) ≤ 0
        · rw [if_pos c3] at e1
          exact ⟨fun _ q => (by cases q; exact (kr_X10_layWays_b265  hI e1).2.1 _ rfl), fun _ q => (by cases q; exact (kr_X10_layWays_b265  hI e1).2.2.1 _ rfl), fun _ q => (by cases q; exact (kr_X10_layWays_b265  hI e1).2.2.2 _ rfl)⟩
        · rw [if_neg c3] at e1
          exact ⟨fun _ q => (by cases q; exact (kr_X10_layWays_b265  hI e1).2.1 _ rfl), fun _ q => (by cases q; exact (kr_X10_layWays_b265  hI e1).2.2.1 _ rfl), fun _ q => (by cases q; exact (kr_X10_layWays_b265  hI e1).2.2.2 _ rfl)⟩
theorem kr_X10_layWays_l170 {m : dc_M} {m0 : dc_M} {x6 : Int32} {x7 : Int32} {u : ((Int32 × dc_M) ⊕ dc_M)} (hD : kr m0 m) (h : d_X10_layWays_l170 82 x6 x7 m = some u) : (∀ s', u = .inl s' → kr m0 (s'.2)) ∧ (∀ e, u = .inr e → kr m0 e) := by
  unfold d_X10_layWays_l170 at h
  refine dc_lp_inv (fun s => kr m0 (s.2)) (fun u => (∀ s', u = .inl s' → kr m0 (s'.2)) ∧ (∀ e, u = .inr e → kr m0 e)) (fun s s' hI e1 => ?_) (fun s e' hI e1 => ?_) hD h
  · unfold d_X10_layWays_l170s d_X10_layWays_l170b at e1
    by_cases c1 : (Int32.toInt (s.2.1 82 3)) ≤ (Int32.toInt s.1)
    · rw [if_pos c1] at e1
      cases e1
    · rw [if_neg c1] at e1
      exact (kr_X10_layWays_l182  hI e1).1 _ rfl
  · unfold d_X10_layWays_l170s d_X10_layWays_l170b at e1
    by_cases c1 : (Int32.toInt (s.2.1 82 3)) ≤ (Int32.toInt s.1)
    · rw [if_pos c1] at e1
      cases e1
      exact ⟨fun _ q => (by cases q; exact hI), fun _ q => (by cases q)⟩
    · rw [if_neg c1] at e1
      exact ⟨fun _ q => (by cases q; exact (kr_X10_layWays_l182  hI e1).2.1 _ rfl), fun _ q => (by cases q; exact (kr_X10_layWays_l182  hI e1).2.2 _ rfl)⟩
theorem kr_X10_layWays_l158 {m : dc_M} {m0 : dc_M} {x6 : Int32} {e : dc_M} (hD : kr m0 m) (h : d_X10_layWays_l158 82 x6 m = some e) : kr m0 e := by
  unfold d_X10_layWays_l158 at h
  refine dc_lp_inv (fun s => kr m0 (s.2)) (fun e => kr m0 e) (fun s s' hI e1 => ?_) (fun s e' hI e1 => ?_) hD h
  · unfold d_X10_layWays_l158s d_X10_layWays_l158b at e1
    by_cases c1 : (Int32.toInt (s.2.1 82 3)) ≤ (Int32.toInt s.1)
    · rw [if_pos c1] at e1
      cases e1
    · rw [if_neg c1] at e1
      exact (kr_X10_layWays_l170  hI e1).1 _ rfl
  · unfold d_X10_layWays_l158s d_X10_layWays_l158b at e1
    by_cases c1 : (Int32.toInt (s.2.1 82 3)) ≤ (Int32.toInt s.1)
    · rw [if_pos c1] at e1
      cases e1
      exact hI
    · rw [if_neg c1] at e1
      exact (kr_X10_layWays_l170  hI e1).2 _ rfl
theorem kr_X10_layWays_b123 {m : dc_M} {m0 : dc_M} {x1 : Int64} {x3 : Int64} {x5 : Int32} {x6 : Int32} {x7 : Int32} {x9 : Int64} {s0 : Int32} {u : ((Int32 × dc_M) ⊕ dc_M)} (hD : kr m0 m) (h : d_X10_layWays_b123 82 x1 x3 x5 x6 x7 x9 s0 (82 + 28) m = some u) : (∀ s', u = .inl s' → kr m0 (s'.2)) ∧ (∀ e, u = .inr e → kr m0 e) := by
  unfold d_X10_layWays_b123 at h
  by_cases c1 : (Int32.toInt (lg_cmp x9 (m.2.1 (82 + 28) (Int32.toNatClampNeg x7)))) ≤ 0
  · rw [if_pos c1] at h
    cases h
    exact ⟨fun _ q => (by cases q; exact (kr_wl hD (by unfold krc; omega))), fun _ q => (by cases q)⟩
  · rw [if_neg c1] at h
    cases h
    exact ⟨fun _ q => (by cases q; exact (kr_wl hD (by unfold krc; omega))), fun _ q => (by cases q)⟩
theorem kr_X10_layWays_b104 {m : dc_M} {m0 : dc_M} {x1 : Int64} {x3 : Int64} {x5 : Int32} {x6 : Int32} {x7 : Int32} {x8 : Int32} {s0 : Int64} {s1 : Int64} {u : ((Int32 × dc_M) ⊕ dc_M)} (hD : kr m0 m) (h : d_X10_layWays_b104 82 x1 x3 x5 x6 x7 x8 s0 s1 m = some u) : (∀ s', u = .inl s' → kr m0 (s'.2)) ∧ (∀ e, u = .inr e → kr m0 e) := by
  unfold d_X10_layWays_b104 at h
  by_cases c1 : (Int32.toInt x5) = 0
  · rw [if_pos c1] at h
    exact kr_X10_layWays_b123  hD h
  · rw [if_neg c1] at h
    by_cases c2 : ¬ (Int32.toInt x8) = 0
    · rw [if_pos c2] at h
      cases h
      exact ⟨fun _ q => (by cases q; exact (kr_wl hD (by unfold krc; omega))), fun _ q => (by cases q)⟩
    · rw [if_neg c2] at h
      exact kr_X10_layWays_b123  hD h
theorem kr_X10_layWays_b77 {m : dc_M} {m0 : dc_M} {x1 : Int64} {x3 : Int64} {x5 : Int32} {x6 : Int32} {x7 : Int32} {s0 : Int32} {u : ((Int32 × dc_M) ⊕ dc_M)} (hD : kr m0 m) (h : d_X10_layWays_b77 82 x1 x3 x5 x6 x7 s0 m = some u) : (∀ s', u = .inl s' → kr m0 (s'.2)) ∧ (∀ e, u = .inr e → kr m0 e) := by
  unfold d_X10_layWays_b77 at h
  by_cases c1 : (Int32.toInt s0) = 0
  · rw [if_pos c1] at h
    exact kr_X10_layWays_b104  hD h
  · rw [if_neg c1] at h
    exact kr_X10_layWays_b104  hD h
theorem kr_X10_layWays_l30 {m : dc_M} {m0 : dc_M} {x1 : Int64} {x3 : Int64} {x5 : Int32} {x6 : Int32} {e : dc_M} (hD : kr m0 m) (h : d_X10_layWays_l30 82 x1 x3 x5 x6 m = some e) : kr m0 e := by
  unfold d_X10_layWays_l30 at h
  refine dc_lp_inv (fun s => kr m0 (s.2)) (fun e => kr m0 e) (fun s s' hI e1 => ?_) (fun s e' hI e1 => ?_) hD h
  · unfold d_X10_layWays_l30s d_X10_layWays_l30b at e1
    by_cases c1 : (Int32.toInt (s.2.1 82 10)) ≤ (Int32.toInt s.1)
    · rw [if_pos c1] at e1
      cases hz : d_X10_layWays_l158 82 (0 : Int32) s.2 with
      | none => rw [hz] at e1; cases e1
      | some z =>
        rw [hz] at e1
        cases e1
    · rw [if_neg c1] at e1
      by_cases c2 : ¬ (Int32.toInt (((s.2.1 82 11) >>> (s.1 &&& 31)) &&& (1 : Int32))) = 1
      · rw [if_pos c2] at e1
        exact (kr_X10_layWays_b77  hI e1).1 _ rfl
      · rw [if_neg c2] at e1
        exact (kr_X10_layWays_b77  hI e1).1 _ rfl
  · unfold d_X10_layWays_l30s d_X10_layWays_l30b at e1
    by_cases c1 : (Int32.toInt (s.2.1 82 10)) ≤ (Int32.toInt s.1)
    · rw [if_pos c1] at e1
      cases hz : d_X10_layWays_l158 82 (0 : Int32) s.2 with
      | none => rw [hz] at e1; cases e1
      | some z =>
        rw [hz] at e1
        cases e1
        exact kr_X10_layWays_l158  hI hz
    · rw [if_neg c1] at e1
      by_cases c2 : ¬ (Int32.toInt (((s.2.1 82 11) >>> (s.1 &&& 31)) &&& (1 : Int32))) = 1
      · rw [if_pos c2] at e1
        exact (kr_X10_layWays_b77  hI e1).2 _ rfl
      · rw [if_neg c2] at e1
        exact (kr_X10_layWays_b77  hI e1).2 _ rfl
theorem kr_X10_layWays_l3 {m : dc_M} {m0 : dc_M} {x1 : Int64} {x3 : Int64} {x5 : Int32} {x6 : Int32} {e : dc_M} (hD : kr m0 m) (h : d_X10_layWays_l3 82 x1 x3 x5 x6 m = some e) : kr m0 e := by
  unfold d_X10_layWays_l3 at h
  refine dc_lp_inv (fun s => kr m0 (s.2)) (fun e => kr m0 e) (fun s s' hI e1 => ?_) (fun s e' hI e1 => ?_) hD h
  · unfold d_X10_layWays_l3s d_X10_layWays_l3b at e1
    by_cases c1 : 256 ≤ (Int32.toInt s.1)
    · rw [if_pos c1] at e1
      cases hz : d_X10_layWays_l30 82 x1 x3 x5 (0 : Int32) s.2 with
      | none => rw [hz] at e1; cases e1
      | some z =>
        rw [hz] at e1
        cases e1
    · rw [if_neg c1] at e1
      cases e1
      exact (kr_wl hI (by unfold krc; omega))
  · unfold d_X10_layWays_l3s d_X10_layWays_l3b at e1
    by_cases c1 : 256 ≤ (Int32.toInt s.1)
    · rw [if_pos c1] at e1
      cases hz : d_X10_layWays_l30 82 x1 x3 x5 (0 : Int32) s.2 with
      | none => rw [hz] at e1; cases e1
      | some z =>
        rw [hz] at e1
        cases e1
        exact kr_X10_layWays_l30  hI hz
    · rw [if_neg c1] at e1
      cases e1
theorem kr_X10_layWays {m : dc_M} {m0 : dc_M} {x1 : Int64} {x3 : Int64} {x5 : Int32} {e : dc_M} (hD : kr m0 m) (h : d_X10_layWays 82 x1 x3 x5 m = some e) : kr m0 e := by
  unfold d_X10_layWays at h
  exact kr_X10_layWays_l3  hD h
theorem kr_X10_hasRing_l14 {m : dc_M} {m0 : dc_M} {x3 : Int32} {x4 : Int32} {e : (Int32 × dc_M)} (hD : kr m0 m) (h : d_X10_hasRing_l14 82 x3 x4 m = some e) : kr m0 (e.2) := by
  unfold d_X10_hasRing_l14 at h
  refine dc_lp_inv (fun s => kr m0 m) (fun e => kr m0 (e.2)) (fun s s' hI e1 => ?_) (fun s e' hI e1 => ?_) hD h
  · exact hI
  · unfold d_X10_hasRing_l14s d_X10_hasRing_l14b at e1
    by_cases c1 : (Int32.toInt (m.1 82 3)) ≤ (Int32.toInt s.2)
    · rw [if_pos c1] at e1
      cases e1
      exact hI
    · rw [if_neg c1] at e1
      by_cases c2 : ¬ (Int32.toInt s.1) = 0
      · rw [if_pos c2] at e1
        cases e1
      · rw [if_neg c2] at e1
        by_cases c3 : (Int32.toInt (lg_cmp (m.2.1 (82 + 28) (Int32.toNatClampNeg ((17 : Int32) * s.2))) (0 : Int64))) < 0
        · rw [if_pos c3] at e1
          cases e1
        · rw [if_neg c3] at e1
          cases e1
theorem kr_X10_hasRing {m : dc_M} {m0 : dc_M} {x1 : Int32} {x2 : Int32} {e : (Int32 × dc_M)} (hD : kr m0 m) (h : d_X10_hasRing 82 x1 x2 m = some e) : kr m0 (e.2) := by
  unfold d_X10_hasRing at h
  cases hq1 : (d_X10_layWays 82 (Int32.toInt64 x2) (Int32.toInt64 x1) (0 : Int32) m) with
  | none => rw [hq1] at h; cases h
  | some q1 =>
    rw [hq1, Option.bind_some] at h
    have dq1 := kr_X10_layWays hD hq1
    exact kr_X10_hasRing_l14  dq1 h
theorem kr_X10_isGraph_l111 {m : dc_M} {m0 : dc_M} {x1 : Int32} {x2 : Int32} {e : (Int32 × dc_M)} (hD : kr m0 m) (h : d_X10_isGraph_l111 82 x1 x2 m = some e) : kr m0 (e.2) := by
  unfold d_X10_isGraph_l111 at h
  refine dc_lp_inv (fun s => kr m0 m) (fun e => kr m0 (e.2)) (fun s s' hI e1 => ?_) (fun s e' hI e1 => ?_) hD h
  · exact hI
  · unfold d_X10_isGraph_l111s d_X10_isGraph_l111b at e1
    by_cases c1 : (Int32.toInt (m.1 82 3)) ≤ (Int32.toInt s.2)
    · rw [if_pos c1] at e1
      cases e1
      exact hI
    · rw [if_neg c1] at e1
      by_cases c2 : (Int32.toInt s.1) = 0
      · rw [if_pos c2] at e1
        cases e1
      · rw [if_neg c2] at e1
        by_cases c3 : 0 ≤ (Int32.toInt (lg_cmp (m.2.1 (82 + 28) (Int32.toNatClampNeg ((17 : Int32) * s.2))) (-500000000000 : Int64)))
        · rw [if_pos c3] at e1
          cases e1
        · rw [if_neg c3] at e1
          cases e1
theorem kr_X10_isGraph_b102 {m : dc_M} {m0 : dc_M} {x1 : Int32} {e : (Int32 × dc_M)} (hD : kr m0 m) (h : d_X10_isGraph_b102 82 x1 m = some e) : kr m0 (e.2) := by
  unfold d_X10_isGraph_b102 at h
  cases hq1 : (d_X10_layWays 82 (1 : Int64) (0 : Int64) (1 : Int32) m) with
  | none => rw [hq1] at h; cases h
  | some q1 =>
    rw [hq1, Option.bind_some] at h
    have dq1 := kr_X10_layWays hD hq1
    exact kr_X10_isGraph_l111  dq1 h
theorem kr_X10_isGraph_l60 {m : dc_M} {m0 : dc_M} {x1 : Int32} {x2 : Int32} {e : (Int32 × dc_M)} (hD : kr m0 m) (h : d_X10_isGraph_l60 82 x1 x2 m = some e) : kr m0 (e.2) := by
  unfold d_X10_isGraph_l60 at h
  refine dc_lp_inv (fun s => kr m0 (s.2)) (fun e => kr m0 (e.2)) (fun s s' hI e1 => ?_) (fun s e' hI e1 => ?_) hD h
  · unfold d_X10_isGraph_l60s d_X10_isGraph_l60b at e1
    by_cases c1 : (Int32.toInt (s.2.1 82 10)) ≤ (Int32.toInt s.1)
    · rw [if_pos c1] at e1
      cases hz : d_X10_isGraph_b102 82 x1 s.2 with
      | none => rw [hz] at e1; cases e1
      | some z =>
        rw [hz] at e1
        cases e1
    · rw [if_neg c1] at e1
      cases hq1 : (d_X10_feeding 82 s.1 s.2) with
      | none => rw [hq1] at e1; cases e1
      | some q1 =>
        rw [hq1, Option.bind_some] at e1
        cases hq2 : (d_X10_leastOf q1 s.2) with
        | none => rw [hq2] at e1; cases e1
        | some q2 =>
          rw [hq2, Option.bind_some] at e1
          cases hq3 : (d_X10_taking 82 s.1 (dc_wi s.2 (82 + 29) (Int32.toNatClampNeg s.1) q2)) with
          | none => rw [hq3] at e1; cases e1
          | some q3 =>
            rw [hq3, Option.bind_some] at e1
            cases hq4 : (d_X10_leastOf q3 (dc_wi s.2 (82 + 29) (Int32.toNatClampNeg s.1) q2)) with
            | none => rw [hq4] at e1; cases e1
            | some q4 =>
              rw [hq4, Option.bind_some] at e1
              cases e1
              exact (kr_wi (kr_wi hI (by unfold krc; omega)) (by unfold krc; omega))
  · unfold d_X10_isGraph_l60s d_X10_isGraph_l60b at e1
    by_cases c1 : (Int32.toInt (s.2.1 82 10)) ≤ (Int32.toInt s.1)
    · rw [if_pos c1] at e1
      cases hz : d_X10_isGraph_b102 82 x1 s.2 with
      | none => rw [hz] at e1; cases e1
      | some z =>
        rw [hz] at e1
        cases e1
        exact kr_X10_isGraph_b102  hI hz
    · rw [if_neg c1] at e1
      cases hq1 : (d_X10_feeding 82 s.1 s.2) with
      | none => rw [hq1] at e1; cases e1
      | some q1 =>
        rw [hq1, Option.bind_some] at e1
        cases hq2 : (d_X10_leastOf q1 s.2) with
        | none => rw [hq2] at e1; cases e1
        | some q2 =>
          rw [hq2, Option.bind_some] at e1
          cases hq3 : (d_X10_taking 82 s.1 (dc_wi s.2 (82 + 29) (Int32.toNatClampNeg s.1) q2)) with
          | none => rw [hq3] at e1; cases e1
          | some q3 =>
            rw [hq3, Option.bind_some] at e1
            cases hq4 : (d_X10_leastOf q3 (dc_wi s.2 (82 + 29) (Int32.toNatClampNeg s.1) q2)) with
            | none => rw [hq4] at e1; cases e1
            | some q4 =>
              rw [hq4, Option.bind_some] at e1
              cases e1
theorem kr_X10_isGraph_b52 {m : dc_M} {m0 : dc_M} {x1 : Int32} {e : (Int32 × dc_M)} (hD : kr m0 m) (h : d_X10_isGraph_b52 82 x1 m = some e) : kr m0 (e.2) := by
  unfold d_X10_isGraph_b52 at h
  by_cases c1 : ¬ (Int32.toInt x1) = 0
  · rw [if_pos c1] at h
    exact kr_X10_isGraph_l60  hD h
  · rw [if_neg c1] at h
    cases h
    exact hD
theorem kr_X10_isGraph_l4 {m : dc_M} {m0 : dc_M} {x1 : Int32} {x2 : Int32} {e : (Int32 × dc_M)} (hD : kr m0 m) (h : d_X10_isGraph_l4 82 x1 x2 m = some e) : kr m0 (e.2) := by
  unfold d_X10_isGraph_l4 at h
  refine dc_lp_inv (fun s => kr m0 m) (fun e => kr m0 (e.2)) (fun s s' hI e1 => ?_) (fun s e' hI e1 => ?_) hD h
  · exact hI
  · unfold d_X10_isGraph_l4s d_X10_isGraph_l4b at e1
    by_cases c1 : (Int32.toInt (m.1 82 10)) ≤ (Int32.toInt s.2)
    · rw [if_pos c1] at e1
      cases hz : d_X10_isGraph_b52 82 s.1 m with
      | none => rw [hz] at e1; cases e1
      | some z =>
        rw [hz] at e1
        cases e1
        exact kr_X10_isGraph_b52  hI hz
    · rw [if_neg c1] at e1
      by_cases c2 : (Int32.toInt s.1) = 0
      · rw [if_pos c2] at e1
        cases e1
      · rw [if_neg c2] at e1
        cases hq1 : (d_X10_feeding 82 s.2 m) with
        | none => rw [hq1] at e1; cases e1
        | some q1 =>
          rw [hq1, Option.bind_some] at e1
          cases hq2 : (d_X10_sizeOf q1 m) with
          | none => rw [hq2] at e1; cases e1
          | some q2 =>
            rw [hq2, Option.bind_some] at e1
            by_cases c3 : ¬ (Int32.toInt q2) = 1
            · rw [if_pos c3] at e1
              cases e1
            · rw [if_neg c3] at e1
              cases hq3 : (d_X10_taking 82 s.2 m) with
              | none => rw [hq3] at e1; cases e1
              | some q3 =>
                rw [hq3, Option.bind_some] at e1
                cases hq4 : (d_X10_sizeOf q3 m) with
                | none => rw [hq4] at e1; cases e1
                | some q4 =>
                  rw [hq4, Option.bind_some] at e1
                  by_cases c4 : ¬ (Int32.toInt q4) = 1
                  · rw [if_pos c4] at e1
                    cases e1
                  · rw [if_neg c4] at e1
                    cases e1
theorem kr_X10_isGraph {m : dc_M} {m0 : dc_M}  {e : (Int32 × dc_M)} (hD : kr m0 m) (h : d_X10_isGraph 82 m = some e) : kr m0 (e.2) := by
  unfold d_X10_isGraph at h
  exact kr_X10_isGraph_l4  hD h
theorem kr_X10_beat_l167 {m : dc_M} {m0 : dc_M} {x5 : Int32} {x6 : Int32} {e : (Int32 × dc_M)} (hD : kr m0 m) (h : d_X10_beat_l167 82 x5 x6 m = some e) : kr m0 (e.2) := by
  unfold d_X10_beat_l167 at h
  refine dc_lp_inv (fun s => kr m0 m) (fun e => kr m0 (e.2)) (fun s s' hI e1 => ?_) (fun s e' hI e1 => ?_) hD h
  · exact hI
  · unfold d_X10_beat_l167s d_X10_beat_l167b at e1
    by_cases c1 : (Int32.toInt (m.1 82 3)) ≤ (Int32.toInt s.2)
    · rw [if_pos c1] at e1
      cases e1
      exact hI
    · rw [if_neg c1] at e1
      by_cases c2 : ¬ (Int32.toInt (lg_cmp (m.2.1 (82 + 28) (Int32.toNatClampNeg ((17 : Int32) * s.2))) (0 : Int64))) = 0
      · rw [if_pos c2] at e1
        cases e1
      · rw [if_neg c2] at e1
        cases e1
theorem kr_X10_beat_b124 {m : dc_M} {m0 : dc_M} {x1 : Int32} {x2 : Int32} {x3 : Int32} {e : (Int32 × dc_M)} (hD : kr m0 m) (h : d_X10_beat_b124 82 x1 x2 x3 m = some e) : kr m0 (e.2) := by
  unfold d_X10_beat_b124 at h
  cases hq1 : (d_X10_divisor x2 x3 m) with
  | none => rw [hq1] at h; cases h
  | some q1 =>
    rw [hq1, Option.bind_some] at h
    by_cases c1 : 2 ≤ (Int32.toInt x1)
    · rw [if_pos c1] at h
      cases hq2 : (d_X10_layWays 82 (Int32.toInt64 x3) (Int32.toInt64 x2) (0 : Int32) m) with
      | none => rw [hq2] at h; cases h
      | some q2 =>
        rw [hq2, Option.bind_some] at h
        have dq2 := kr_X10_layWays hD hq2
        exact kr_X10_beat_l167  dq2 h
    · rw [if_neg c1] at h
      by_cases c2 : ¬ (Int32.toInt x1) = 0
      · rw [if_pos c2] at h
        cases h
        exact hD
      · rw [if_neg c2] at h
        cases h
        exact hD
theorem kr_X10_beat_b101 {m : dc_M} {m0 : dc_M} {x1 : Int32} {x2 : Int32} {x3 : Int32} {x4 : Int32} {x5 : Int32} {u : ((Int32 × Int32 × Int32 × dc_M) ⊕ (Int32 × dc_M))} (hD : kr m0 m) (h : d_X10_beat_b101 82 x1 x2 x3 x4 x5 m = some u) : (∀ s', u = .inl s' → kr m0 (s'.2.2.2)) ∧ (∀ e, u = .inr e → kr m0 (e.2)) := by
  unfold d_X10_beat_b101 at h
  by_cases c1 : (Int32.toInt (x5 * x3)) ≤ (Int32.toInt (x2 * x4))
  · rw [if_pos c1] at h
    cases h
    exact ⟨fun _ q => (by cases q; exact hD), fun _ q => (by cases q)⟩
  · rw [if_neg c1] at h
    cases h
    exact ⟨fun _ q => (by cases q; exact hD), fun _ q => (by cases q)⟩
theorem kr_X10_beat_l58 {m : dc_M} {m0 : dc_M} {x1 : Int32} {x2 : Int32} {x3 : Int32} {x4 : Int32} {x5 : Int32} {x6 : Int32} {u : ((Int32 × Int32 × Int32 × dc_M) ⊕ (Int32 × dc_M))} (hD : kr m0 m) (h : d_X10_beat_l58 82 x1 x2 x3 x4 x5 x6 m = some u) : (∀ s', u = .inl s' → kr m0 (s'.2.2.2)) ∧ (∀ e, u = .inr e → kr m0 (e.2)) := by
  unfold d_X10_beat_l58 at h
  refine dc_lp_inv (fun s => kr m0 (s.2.2)) (fun u => (∀ s', u = .inl s' → kr m0 (s'.2.2.2)) ∧ (∀ e, u = .inr e → kr m0 (e.2))) (fun s s' hI e1 => ?_) (fun s e' hI e1 => ?_) hD h
  · unfold d_X10_beat_l58s d_X10_beat_l58b at e1
    by_cases c1 : (Int32.toInt (s.2.1 - s.1)) ≤ 1
    · rw [if_pos c1] at e1
      cases hz : d_X10_beat_b101 82 x1 x2 x3 x4 s.1 s.2.2 with
      | none => rw [hz] at e1; cases e1
      | some z =>
        rw [hz] at e1
        cases e1
    · rw [if_neg c1] at e1
      cases hq1 : (d_X10_hasRing 82 ((s.1 + s.2.1) / (2 : Int32)) x4 s.2.2) with
      | none => rw [hq1] at e1; cases e1
      | some q1 =>
        rw [hq1, Option.bind_some] at e1
        have dq1 := kr_X10_hasRing hI hq1
        by_cases c2 : (Int32.toInt q1.1) = 0
        · rw [if_pos c2] at e1
          cases e1
          exact dq1
        · rw [if_neg c2] at e1
          cases e1
          exact dq1
  · unfold d_X10_beat_l58s d_X10_beat_l58b at e1
    by_cases c1 : (Int32.toInt (s.2.1 - s.1)) ≤ 1
    · rw [if_pos c1] at e1
      cases hz : d_X10_beat_b101 82 x1 x2 x3 x4 s.1 s.2.2 with
      | none => rw [hz] at e1; cases e1
      | some z =>
        rw [hz] at e1
        cases e1
        exact kr_X10_beat_b101  hI hz
    · rw [if_neg c1] at e1
      cases hq1 : (d_X10_hasRing 82 ((s.1 + s.2.1) / (2 : Int32)) x4 s.2.2) with
      | none => rw [hq1] at e1; cases e1
      | some q1 =>
        rw [hq1, Option.bind_some] at e1
        have dq1 := kr_X10_hasRing hI hq1
        by_cases c2 : (Int32.toInt q1.1) = 0
        · rw [if_pos c2] at e1
          cases e1
        · rw [if_neg c2] at e1
          cases e1
theorem kr_X10_beat_l43 {m : dc_M} {m0 : dc_M} {x1 : Int32} {x2 : Int32} {x3 : Int32} {x4 : Int32} {e : (Int32 × dc_M)} (hD : kr m0 m) (h : d_X10_beat_l43 82 x1 x2 x3 x4 m = some e) : kr m0 (e.2) := by
  unfold d_X10_beat_l43 at h
  refine dc_lp_inv (fun s => kr m0 (s.2.2.2)) (fun e => kr m0 (e.2)) (fun s s' hI e1 => ?_) (fun s e' hI e1 => ?_) hD h
  · unfold d_X10_beat_l43s d_X10_beat_l43b at e1
    by_cases c1 : 16 < (Int32.toInt s.2.2.1)
    · rw [if_pos c1] at e1
      cases hz : d_X10_beat_b124 82 x1 s.1 s.2.1 s.2.2.2 with
      | none => rw [hz] at e1; cases e1
      | some z =>
        rw [hz] at e1
        cases e1
    · rw [if_neg c1] at e1
      exact (kr_X10_beat_l58  hI e1).1 _ rfl
  · unfold d_X10_beat_l43s d_X10_beat_l43b at e1
    by_cases c1 : 16 < (Int32.toInt s.2.2.1)
    · rw [if_pos c1] at e1
      cases hz : d_X10_beat_b124 82 x1 s.1 s.2.1 s.2.2.2 with
      | none => rw [hz] at e1; cases e1
      | some z =>
        rw [hz] at e1
        cases e1
        exact kr_X10_beat_b124  hI hz
    · rw [if_neg c1] at e1
      exact (kr_X10_beat_l58  hI e1).2 _ rfl
theorem kr_X10_beat {m : dc_M} {m0 : dc_M} {x1 : Int32} {e : (Int32 × dc_M)} (hD : kr m0 m) (h : d_X10_beat 82 x1 m = some e) : kr m0 (e.2) := by
  unfold d_X10_beat at h
  by_cases c1 : ¬ (Int32.toInt (d_X10_in (Int32.toInt64 x1) (0 : Int64) (2 : Int64) m)) = 0
  · rw [if_pos c1] at h
    cases hq1 : (d_X10_isGraph 82 m) with
    | none => rw [hq1] at h; cases h
    | some q1 =>
      rw [hq1, Option.bind_some] at h
      have dq1 := kr_X10_isGraph hD hq1
      by_cases c2 : ¬ (Int32.toInt q1.1) = 0
      · rw [if_pos c2] at h
        cases hq2 : (d_X10_hasRing 82 (0 : Int32) (1 : Int32) q1.2) with
        | none => rw [hq2] at h; cases h
        | some q2 =>
          rw [hq2, Option.bind_some] at h
          have dq2 := kr_X10_hasRing dq1 hq2
          by_cases c3 : ¬ (Int32.toInt q2.1) = 0
          · rw [if_pos c3] at h
            exact kr_X10_beat_l43  dq2 h
          · rw [if_neg c3] at h
            cases h
            exact dq2
      · rw [if_neg c2] at h
        cases h
        exact dq1
  · rw [if_neg c1] at h
    cases h
    exact hD
theorem kr_X10_layEnds_b234 {m : dc_M} {m0 : dc_M} {x1 : Int32} {x2 : Int32} {x3 : Int32} {x4 : Int32} {x5 : Int32} {x6 : Int32} {u : ((Int32 × dc_M) ⊕ ((Int32 × dc_M) ⊕ dc_M))} (hD : kr m0 m) (h : d_X10_layEnds_b234 82 x1 x2 x3 x4 x5 x6 m = some u) : (∀ s', u = .inl s' → kr m0 (s'.2)) ∧ (∀ s', u = Sum.inr (Sum.inl s') → kr m0 (s'.2)) ∧ (∀ e, u = Sum.inr (Sum.inr e) → kr m0 e) := by
  unfold d_X10_layEnds_b234 at h
  by_cases c1 : (Int32.toInt x6) = 0
  · rw [if_pos c1] at h
    by_cases c2 : (Int32.toInt x5) = 0
    · rw [if_pos c2] at h
      cases h
      exact ⟨fun _ q => (by cases q; exact (kr_wi hD (by unfold krc; omega))), fun _ q => (by cases q), fun _ q => (by cases q)⟩
    · rw [if_neg c2] at h
      cases h
      exact ⟨fun _ q => (by cases q; exact (kr_wi hD (by unfold krc; omega))), fun _ q => (by cases q), fun _ q => (by cases q)⟩
  · rw [if_neg c1] at h
    cases h
    exact ⟨fun _ q => (by cases q; exact (kr_wi hD (by unfold krc; omega))), fun _ q => (by cases q), fun _ q => (by cases q)⟩
theorem kr_X10_layEnds_b210 {m : dc_M} {m0 : dc_M} {x1 : Int32} {x2 : Int32} {x3 : Int32} {x4 : Int32} {x5 : Int32} {x7 : Int32} {x9 : Int32} {s0 : Int32} {u : ((Int32 × Int32 × Int32 × Int32) ⊕ ((Int32 × dc_M) ⊕ ((Int32 × dc_M) ⊕ dc_M)))} (hD : kr m0 m) (h : d_X10_layEnds_b210 82 x1 x2 x3 x4 x5 x7 x9 s0 m = some u) : (∀ s', u = .inl s' → kr m0 m) ∧ (∀ s', u = Sum.inr (Sum.inl s') → kr m0 (s'.2)) ∧ (∀ s', u = Sum.inr (Sum.inr (Sum.inl s')) → kr m0 (s'.2)) ∧ (∀ e, u = Sum.inr (Sum.inr (Sum.inr e)) → kr m0 e) := by
  unfold d_X10_layEnds_b210 at h
  by_cases c1 : (Int32.toInt x9) ≤ (Int32.toInt x4)
  · rw [if_pos c1] at h
    cases h
    exact ⟨fun _ q => (by cases q; exact hD), fun _ q => (by cases q), fun _ q => (by cases q), fun _ q => (by cases q)⟩
  · rw [if_neg c1] at h
    cases h
    exact ⟨fun _ q => (by cases q; exact hD), fun _ q => (by cases q), fun _ q => (by cases q), fun _ q => (by cases q)⟩
theorem kr_X10_layEnds_b192 {m : dc_M} {m0 : dc_M} {x1 : Int32} {x2 : Int32} {x3 : Int32} {x4 : Int32} {x6 : Int32} {x7 : Int32} {x9 : Int32} {s0 : Int32} {u : ((Int32 × Int32 × Int32 × Int32) ⊕ ((Int32 × dc_M) ⊕ ((Int32 × dc_M) ⊕ dc_M)))} (hD : kr m0 m) (h : d_X10_layEnds_b192 82 x1 x2 x3 x4 x6 x7 x9 s0 m = some u) : (∀ s', u = .inl s' → kr m0 m) ∧ (∀ s', u = Sum.inr (Sum.inl s') → kr m0 (s'.2)) ∧ (∀ s', u = Sum.inr (Sum.inr (Sum.inl s')) → kr m0 (s'.2)) ∧ (∀ e, u = Sum.inr (Sum.inr (Sum.inr e)) → kr m0 e) := by
  unfold d_X10_layEnds_b192 at h
  by_cases c1 : ¬ (Int32.toInt x6) = 0
  · rw [if_pos c1] at h
    exact kr_X10_layEnds_b210  hD h
  · rw [if_neg c1] at h
    by_cases c2 : ¬ (Int32.toInt x9) = (-1)
    · rw [if_pos c2] at h
      exact kr_X10_layEnds_b210  hD h
    · rw [if_neg c2] at h
      exact kr_X10_layEnds_b210  hD h
theorem kr_X10_layEnds_b173 {m : dc_M} {m0 : dc_M} {x1 : Int32} {x2 : Int32} {x3 : Int32} {x4 : Int32} {x5 : Int32} {x6 : Int32} {x7 : Int32} {s0 : Int32} {u : ((Int32 × Int32 × Int32 × Int32) ⊕ ((Int32 × dc_M) ⊕ ((Int32 × dc_M) ⊕ dc_M)))} (hD : kr m0 m) (h : d_X10_layEnds_b173 82 x1 x2 x3 x4 x5 x6 x7 s0 m = some u) : (∀ s', u = .inl s' → kr m0 m) ∧ (∀ s', u = Sum.inr (Sum.inl s') → kr m0 (s'.2)) ∧ (∀ s', u = Sum.inr (Sum.inr (Sum.inl s')) → kr m0 (s'.2)) ∧ (∀ e, u = Sum.inr (Sum.inr (Sum.inr e)) → kr m0 e) := by
  unfold d_X10_layEnds_b173 at h
  by_cases c1 : (Int32.toInt x5) = 0
  · rw [if_pos c1] at h
    exact kr_X10_layEnds_b192  hD h
  · rw [if_neg c1] at h
    by_cases c2 : (Int32.toInt s0) = (-2)
    · rw [if_pos c2] at h
      exact kr_X10_layEnds_b192  hD h
    · rw [if_neg c2] at h
      exact kr_X10_layEnds_b192  hD h
theorem kr_X10_layEnds_b130 {m : dc_M} {m0 : dc_M} {x1 : Int32} {x2 : Int32} {x3 : Int32} {x4 : Int32} {x5 : Int32} {x6 : Int32} {x7 : Int32} {s0 : Int32} {u : ((Int32 × Int32 × Int32 × Int32) ⊕ ((Int32 × dc_M) ⊕ ((Int32 × dc_M) ⊕ dc_M)))} (hD : kr m0 m) (h : d_X10_layEnds_b130 82 x1 x2 x3 x4 x5 x6 x7 s0 m = some u) : (∀ s', u = .inl s' → kr m0 m) ∧ (∀ s', u = Sum.inr (Sum.inl s') → kr m0 (s'.2)) ∧ (∀ s', u = Sum.inr (Sum.inr (Sum.inl s')) → kr m0 (s'.2)) ∧ (∀ e, u = Sum.inr (Sum.inr (Sum.inr e)) → kr m0 e) := by
  unfold d_X10_layEnds_b130 at h
  by_cases c1 : (Int32.toInt s0) = 0
  · rw [if_pos c1] at h
    exact kr_X10_layEnds_b173  hD h
  · rw [if_neg c1] at h
    by_cases c2 : ¬ (Int32.toInt x1) = 1
    · rw [if_pos c2] at h
      exact kr_X10_layEnds_b173  hD h
    · rw [if_neg c2] at h
      exact kr_X10_layEnds_b173  hD h
theorem kr_X10_layEnds_l92 {m : dc_M} {m0 : dc_M} {x1 : Int32} {x2 : Int32} {x3 : Int32} {x4 : Int32} {x5 : Int32} {x6 : Int32} {x7 : Int32} {u : ((Int32 × dc_M) ⊕ ((Int32 × dc_M) ⊕ dc_M))} (hD : kr m0 m) (h : d_X10_layEnds_l92 82 x1 x2 x3 x4 x5 x6 x7 m = some u) : (∀ s', u = .inl s' → kr m0 (s'.2)) ∧ (∀ s', u = Sum.inr (Sum.inl s') → kr m0 (s'.2)) ∧ (∀ e, u = Sum.inr (Sum.inr e) → kr m0 e) := by
  unfold d_X10_layEnds_l92 at h
  refine dc_lp_inv (fun s => kr m0 m) (fun u => (∀ s', u = .inl s' → kr m0 (s'.2)) ∧ (∀ s', u = Sum.inr (Sum.inl s') → kr m0 (s'.2)) ∧ (∀ e, u = Sum.inr (Sum.inr e) → kr m0 e)) (fun s s' hI e1 => ?_) (fun s e' hI e1 => ?_) hD h
  · exact hI
  · unfold d_X10_layEnds_l92s d_X10_layEnds_l92b at e1
    by_cases c1 : (Int32.toInt (m.1 82 10)) ≤ (Int32.toInt s.2.2.2)
    · rw [if_pos c1] at e1
      cases hz : d_X10_layEnds_b234 82 x1 x2 x3 s.1 s.2.1 s.2.2.1 m with
      | none => rw [hz] at e1; cases e1
      | some z =>
        rw [hz] at e1
        cases e1
        exact kr_X10_layEnds_b234  hI hz
    · rw [if_neg c1] at e1
      by_cases c2 : ¬ (Int32.toInt (m.1 (82 + 30) (Int32.toNatClampNeg s.2.2.2))) = (Int32.toInt x3)
      · rw [if_pos c2] at e1
        cases e1
      · rw [if_neg c2] at e1
        by_cases c3 : ¬ (Int32.toInt (((m.1 82 11) >>> (s.2.2.2 &&& 31)) &&& (1 : Int32))) = 1
        · rw [if_pos c3] at e1
          exact ⟨fun _ q => (by cases q; exact (kr_X10_layEnds_b130  hI e1).2.1 _ rfl), fun _ q => (by cases q; exact (kr_X10_layEnds_b130  hI e1).2.2.1 _ rfl), fun _ q => (by cases q; exact (kr_X10_layEnds_b130  hI e1).2.2.2 _ rfl)⟩
        · rw [if_neg c3] at e1
          exact ⟨fun _ q => (by cases q; exact (kr_X10_layEnds_b130  hI e1).2.1 _ rfl), fun _ q => (by cases q; exact (kr_X10_layEnds_b130  hI e1).2.2.1 _ rfl), fun _ q => (by cases q; exact (kr_X10_layEnds_b130  hI e1).2.2.2 _ rfl)⟩
theorem kr_X10_layEnds_l61 {m : dc_M} {m0 : dc_M} {x1 : Int32} {x2 : Int32} {x3 : Int32} {u : ((Int32 × dc_M) ⊕ dc_M)} (hD : kr m0 m) (h : d_X10_layEnds_l61 82 x1 x2 x3 m = some u) : (∀ s', u = .inl s' → kr m0 (s'.2)) ∧ (∀ e, u = .inr e → kr m0 e) := by
  unfold d_X10_layEnds_l61 at h
  refine dc_lp_inv (fun s => kr m0 (s.2)) (fun u => (∀ s', u = .inl s' → kr m0 (s'.2)) ∧ (∀ e, u = .inr e → kr m0 e)) (fun s s' hI e1 => ?_) (fun s e' hI e1 => ?_) hD h
  · unfold d_X10_layEnds_l61s d_X10_layEnds_l61b at e1
    by_cases c1 : (Int32.toInt (s.2.1 82 3)) ≤ (Int32.toInt s.1)
    · rw [if_pos c1] at e1
      cases e1
    · rw [if_neg c1] at e1
      by_cases c2 : ¬ (Int32.toInt (s.2.1 (82 + 31) (Int32.toNatClampNeg s.1))) = (-2)
      · rw [if_pos c2] at e1
        cases e1
        exact hI
      · rw [if_neg c2] at e1
        exact (kr_X10_layEnds_l92  hI e1).1 _ rfl
  · unfold d_X10_layEnds_l61s d_X10_layEnds_l61b at e1
    by_cases c1 : (Int32.toInt (s.2.1 82 3)) ≤ (Int32.toInt s.1)
    · rw [if_pos c1] at e1
      cases e1
      exact ⟨fun _ q => (by cases q; exact hI), fun _ q => (by cases q)⟩
    · rw [if_neg c1] at e1
      by_cases c2 : ¬ (Int32.toInt (s.2.1 (82 + 31) (Int32.toNatClampNeg s.1))) = (-2)
      · rw [if_pos c2] at e1
        cases e1
      · rw [if_neg c2] at e1
        exact ⟨fun _ q => (by cases q; exact (kr_X10_layEnds_l92  hI e1).2.1 _ rfl), fun _ q => (by cases q; exact (kr_X10_layEnds_l92  hI e1).2.2 _ rfl)⟩
theorem kr_X10_layEnds_l51 {m : dc_M} {m0 : dc_M} {x1 : Int32} {x2 : Int32} {e : dc_M} (hD : kr m0 m) (h : d_X10_layEnds_l51 82 x1 x2 m = some e) : kr m0 e := by
  unfold d_X10_layEnds_l51 at h
  refine dc_lp_inv (fun s => kr m0 (s.2)) (fun e => kr m0 e) (fun s s' hI e1 => ?_) (fun s e' hI e1 => ?_) hD h
  · unfold d_X10_layEnds_l51s d_X10_layEnds_l51b at e1
    by_cases c1 : (Int32.toInt (s.2.1 82 3)) < (Int32.toInt s.1)
    · rw [if_pos c1] at e1
      cases e1
    · rw [if_neg c1] at e1
      exact (kr_X10_layEnds_l61  hI e1).1 _ rfl
  · unfold d_X10_layEnds_l51s d_X10_layEnds_l51b at e1
    by_cases c1 : (Int32.toInt (s.2.1 82 3)) < (Int32.toInt s.1)
    · rw [if_pos c1] at e1
      cases e1
      exact hI
    · rw [if_neg c1] at e1
      exact (kr_X10_layEnds_l61  hI e1).2 _ rfl
theorem kr_X10_layEnds_l2 {m : dc_M} {m0 : dc_M} {x1 : Int32} {x2 : Int32} {e : dc_M} (hD : kr m0 m) (h : d_X10_layEnds_l2 82 x1 x2 m = some e) : kr m0 e := by
  unfold d_X10_layEnds_l2 at h
  refine dc_lp_inv (fun s => kr m0 (s.2)) (fun e => kr m0 e) (fun s s' hI e1 => ?_) (fun s e' hI e1 => ?_) hD h
  · unfold d_X10_layEnds_l2s d_X10_layEnds_l2b at e1
    by_cases c1 : (Int32.toInt (s.2.1 82 3)) ≤ (Int32.toInt s.1)
    · rw [if_pos c1] at e1
      cases hz : d_X10_layEnds_l51 82 x1 (0 : Int32) s.2 with
      | none => rw [hz] at e1; cases e1
      | some z =>
        rw [hz] at e1
        cases e1
    · rw [if_neg c1] at e1
      by_cases c2 : ¬ (Int32.toInt ((dc_wi s.2 (82 + 32) (Int32.toNatClampNeg s.1) (s.2.1 (82 + 31) (Int32.toNatClampNeg s.1))).1 (82 + 6) (Int32.toNatClampNeg s.1))) = 0
      · rw [if_pos c2] at e1
        cases e1
        exact (kr_wi (kr_wi hI (by unfold krc; omega)) (by unfold krc; omega))
      · rw [if_neg c2] at e1
        cases e1
        exact (kr_wi (kr_wi hI (by unfold krc; omega)) (by unfold krc; omega))
  · unfold d_X10_layEnds_l2s d_X10_layEnds_l2b at e1
    by_cases c1 : (Int32.toInt (s.2.1 82 3)) ≤ (Int32.toInt s.1)
    · rw [if_pos c1] at e1
      cases hz : d_X10_layEnds_l51 82 x1 (0 : Int32) s.2 with
      | none => rw [hz] at e1; cases e1
      | some z =>
        rw [hz] at e1
        cases e1
        exact kr_X10_layEnds_l51  hI hz
    · rw [if_neg c1] at e1
      by_cases c2 : ¬ (Int32.toInt ((dc_wi s.2 (82 + 32) (Int32.toNatClampNeg s.1) (s.2.1 (82 + 31) (Int32.toNatClampNeg s.1))).1 (82 + 6) (Int32.toNatClampNeg s.1))) = 0
      · rw [if_pos c2] at e1
        cases e1
      · rw [if_neg c2] at e1
        cases e1
theorem kr_X10_layEnds {m : dc_M} {m0 : dc_M} {x1 : Int32} {e : dc_M} (hD : kr m0 m) (h : d_X10_layEnds 82 x1 m = some e) : kr m0 e := by
  unfold d_X10_layEnds at h
  exact kr_X10_layEnds_l2  hD h
theorem kr_X10_time_b50 {m : dc_M} {m0 : dc_M} {x1 : Int32} {e : (Int32 × dc_M)} (hD : kr m0 m) (h : d_X10_time_b50 82 x1 m = some e) : kr m0 (e.2) := by
  unfold d_X10_time_b50 at h
  by_cases c1 : ¬ (Int32.toInt (m.1 (82 + 31) (Int32.toNatClampNeg x1))) = (-1)
  · rw [if_pos c1] at h
    cases h
    exact hD
  · rw [if_neg c1] at h
    cases h
    exact hD
theorem kr_X10_time_l34 {m : dc_M} {m0 : dc_M} {x1 : Int32} {x2 : Int32} {x3 : Int32} {e : (Int32 × dc_M)} (hD : kr m0 m) (h : d_X10_time_l34 82 x1 x2 x3 m = some e) : kr m0 (e.2) := by
  unfold d_X10_time_l34 at h
  refine dc_lp_inv (fun s => kr m0 (s.2)) (fun e => kr m0 (e.2)) (fun s s' hI e1 => ?_) (fun s e' hI e1 => ?_) hD h
  · unfold d_X10_time_l34s d_X10_time_l34b at e1
    by_cases c1 : (Int32.toInt x2) < (Int32.toInt s.1)
    · rw [if_pos c1] at e1
      cases hz : d_X10_time_b50 82 x1 s.2 with
      | none => rw [hz] at e1; cases e1
      | some z =>
        rw [hz] at e1
        cases e1
    · rw [if_neg c1] at e1
      cases hq1 : (d_X10_layEnds 82 s.1 s.2) with
      | none => rw [hq1] at e1; cases e1
      | some q1 =>
        rw [hq1, Option.bind_some] at e1
        have dq1 := kr_X10_layEnds hI hq1
        cases e1
        exact dq1
  · unfold d_X10_time_l34s d_X10_time_l34b at e1
    by_cases c1 : (Int32.toInt x2) < (Int32.toInt s.1)
    · rw [if_pos c1] at e1
      cases hz : d_X10_time_b50 82 x1 s.2 with
      | none => rw [hz] at e1; cases e1
      | some z =>
        rw [hz] at e1
        cases e1
        exact kr_X10_time_b50  hI hz
    · rw [if_neg c1] at e1
      cases hq1 : (d_X10_layEnds 82 s.1 s.2) with
      | none => rw [hq1] at e1; cases e1
      | some q1 =>
        rw [hq1, Option.bind_some] at e1
        have dq1 := kr_X10_layEnds hI hq1
        cases e1
theorem kr_X10_time {m : dc_M} {m0 : dc_M} {x1 : Int32} {x2 : Int32} {e : (Int32 × dc_M)} (hD : kr m0 m) (h : d_X10_time 82 x1 x2 m = some e) : kr m0 (e.2) := by
  unfold d_X10_time at h
  by_cases c1 : (Int32.toInt (d_X10_isEvent 82 x1 m)) = 0
  · rw [if_pos c1] at h
    cases h
    exact hD
  · rw [if_neg c1] at h
    by_cases c2 : ¬ (Int32.toInt (d_X10_in (Int32.toInt64 x2) (1 : Int64) (50 : Int64) m)) = 0
    · rw [if_pos c2] at h
      cases hq1 : (d_X10_isGraph 82 m) with
      | none => rw [hq1] at h; cases h
      | some q1 =>
        rw [hq1, Option.bind_some] at h
        have dq1 := kr_X10_isGraph hD hq1
        by_cases c3 : ¬ (Int32.toInt q1.1) = 0
        · rw [if_pos c3] at h
          exact kr_X10_time_l34  dq1 h
        · rw [if_neg c3] at h
          cases h
          exact dq1
    · rw [if_neg c2] at h
      cases h
      exact hD
