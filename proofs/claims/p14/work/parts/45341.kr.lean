/-! ===== makes and cost leave the net alone (written by a program) ===== -/
theorem kr_X10_canMake_b196 {m : dc_M} {m0 : dc_M} {x3 : Int32} {x5 : Int32} {x8 : Int32} {u : ((Int32 × dc_M) ⊕ (Int32 × dc_M))} (hD : kr m0 m) (h : d_X10_canMake_b196 82 x3 x5 x8 m = some u) : (∀ s', u = .inl s' → kr m0 (s'.2)) ∧ (∀ e, u = .inr e → kr m0 (e.2)) := by
  unfold d_X10_canMake_b196 at h
  by_cases c1 : (Int32.toInt (m.1 82 49)) ≤ (Int32.toInt x8)
  · rw [if_pos c1] at h
    cases h
    exact ⟨fun _ q => (by rw [← Sum.inl.inj q]; exact hD), fun _ q => (by cases q)⟩
  · rw [if_neg c1] at h
    by_cases c2 : (Int32.toInt x3) ≤ (Int32.toInt x5)
    · rw [if_pos c2] at h
      cases h
      exact ⟨fun _ q => (by rw [← Sum.inl.inj q]; exact hD), fun _ q => (by cases q)⟩
    · rw [if_neg c2] at h
      cases h
      exact ⟨fun _ q => (by cases q; exact (kr_wi (kr_wi (kr_wl (kr_wi hD (by unfold krc; omega)) (by unfold krc; omega)) (by unfold krc; omega)) (by unfold krc; omega))), fun _ q => (by cases q)⟩
theorem kr_X10_canMake_l142 {m : dc_M} {m0 : dc_M} {x3 : Int32} {x5 : Int32} {x8 : Int32} {u : ((Int32 × dc_M) ⊕ (Int32 × dc_M))} (hD : kr m0 m) (h : d_X10_canMake_l142 82 x3 x5 x8 m = some u) : (∀ s', u = .inl s' → kr m0 (s'.2)) ∧ (∀ e, u = .inr e → kr m0 (e.2)) := by
  unfold d_X10_canMake_l142 at h
  refine dc_lp_inv (fun s => kr m0 m) (fun u => (∀ s', u = .inl s' → kr m0 (s'.2)) ∧ (∀ e, u = .inr e → kr m0 (e.2))) (fun s s' hI e1 => ?_) (fun s e' hI e1 => ?_) hD h
  · exact hI
  · unfold d_X10_canMake_l142s d_X10_canMake_l142b at e1
    by_cases c1 : (Int32.toInt (m.1 82 49)) ≤ (Int32.toInt s)
    · rw [if_pos c1] at e1
      cases hz : d_X10_canMake_b196 82 x3 x5 s m with
      | none => rw [hz] at e1; cases e1
      | some z =>
        rw [hz] at e1
        cases e1
        exact kr_X10_canMake_b196  hI hz
    · rw [if_neg c1] at e1
      by_cases c2 : (Int32.toInt (lg_cmp (((m.2.1 (82 + 22) (Int32.toNatClampNeg s)) >>> (Int32.toInt64 (m.1 (82 + 25) (Int32.toNatClampNeg x5)) &&& 63)) &&& (1 : Int64)) (0 : Int64))) = 0
      · rw [if_pos c2] at e1
        cases e1
      · rw [if_neg c2] at e1
        by_cases c3 : (Int32.toInt (m.1 (82 + 23) (Int32.toNatClampNeg s))) ≤ (Int32.toInt (m.1 (82 + 27) (Int32.toNatClampNeg x5)))
        · rw [if_pos c3] at e1
          cases hz : d_X10_canMake_b196 82 x3 x5 s m with
          | none => rw [hz] at e1; cases e1
          | some z =>
            rw [hz] at e1
            cases e1
            exact kr_X10_canMake_b196  hI hz
        · rw [if_neg c3] at e1
          cases e1
theorem kr_X10_canMake_b115 {m : dc_M} {m0 : dc_M} {x3 : Int32} {x5 : Int32} {u : ((Int32 × dc_M) ⊕ (Int32 × dc_M))} (hD : kr m0 m) (h : d_X10_canMake_b115 82 x3 x5 m = some u) : (∀ s', u = .inl s' → kr m0 (s'.2)) ∧ (∀ e, u = .inr e → kr m0 (e.2)) := by
  unfold d_X10_canMake_b115 at h
  by_cases c1 : ¬ (Int32.toInt (m.1 (82 + 25) (Int32.toNatClampNeg x5))) = (-1)
  · rw [if_pos c1] at h
    exact kr_X10_canMake_l142  hD h
  · rw [if_neg c1] at h
    exact kr_X10_canMake_l142  hD h
theorem kr_X10_canMake_l26 {m : dc_M} {m0 : dc_M} {x3 : Int32} {x5 : Int32} {e : (Int32 × dc_M)} (hD : kr m0 m) (h : d_X10_canMake_l26 82 x3 x5 m = some e) : kr m0 (e.2) := by
  unfold d_X10_canMake_l26 at h
  refine dc_lp_inv (fun s => kr m0 (s.2)) (fun e => kr m0 (e.2)) (fun s s' hI e1 => ?_) (fun s e' hI e1 => ?_) hD h
  · unfold d_X10_canMake_l26s d_X10_canMake_l26b at e1
    by_cases c1 : (Int32.toInt s.1) < 0
    · rw [if_pos c1] at e1
      cases e1
    · rw [if_neg c1] at e1
      by_cases c2 : ¬ (Int32.toInt (lg_cmp ((s.2.2.1 82 47) &&& ((s.2.2.1 (82 + 24) (Int32.toNatClampNeg s.1)) ^^^ (-1 : Int64))) (0 : Int64))) = 0
      · rw [if_pos c2] at e1
        by_cases c3 : ¬ (Int32.toInt (s.2.1 (82 + 25) (Int32.toNatClampNeg s.1))) = (-4)
        · rw [if_pos c3] at e1
          exact (kr_X10_canMake_b115  hI e1).1 _ rfl
        · rw [if_neg c3] at e1
          cases hq1 : (d_X10_isHopeless 82 ((s.2.2.1 82 47) &&& ((s.2.2.1 (82 + 24) (Int32.toNatClampNeg s.1)) ^^^ (-1 : Int64))) (x3 - s.1) (s.2.1 (82 + 27) (Int32.toNatClampNeg s.1)) s.2) with
          | none => rw [hq1] at e1; cases e1
          | some q1 =>
            rw [hq1, Option.bind_some] at e1
            by_cases c4 : (Int32.toInt q1) = 0
            · rw [if_pos c4] at e1
              cases hq2 : (d_X10_hardest 82 ((s.2.2.1 82 47) &&& ((s.2.2.1 (82 + 24) (Int32.toNatClampNeg s.1)) ^^^ (-1 : Int64))) s.2) with
              | none => rw [hq2] at e1; cases e1
              | some q2 =>
                rw [hq2, Option.bind_some] at e1
                exact (kr_X10_canMake_b115  (kr_wi (kr_wi hI (by unfold krc; omega)) (by unfold krc; omega)) e1).1 _ rfl
            · rw [if_neg c4] at e1
              exact (kr_X10_canMake_b115  (kr_wi (kr_wi hI (by unfold krc; omega)) (by unfold krc; omega)) e1).1 _ rfl
      · rw [if_neg c2] at e1
        cases e1
  · unfold d_X10_canMake_l26s d_X10_canMake_l26b at e1
    by_cases c1 : (Int32.toInt s.1) < 0
    · rw [if_pos c1] at e1
      cases e1
      exact hI
    · rw [if_neg c1] at e1
      by_cases c2 : ¬ (Int32.toInt (lg_cmp ((s.2.2.1 82 47) &&& ((s.2.2.1 (82 + 24) (Int32.toNatClampNeg s.1)) ^^^ (-1 : Int64))) (0 : Int64))) = 0
      · rw [if_pos c2] at e1
        by_cases c3 : ¬ (Int32.toInt (s.2.1 (82 + 25) (Int32.toNatClampNeg s.1))) = (-4)
        · rw [if_pos c3] at e1
          exact (kr_X10_canMake_b115  hI e1).2 _ rfl
        · rw [if_neg c3] at e1
          cases hq1 : (d_X10_isHopeless 82 ((s.2.2.1 82 47) &&& ((s.2.2.1 (82 + 24) (Int32.toNatClampNeg s.1)) ^^^ (-1 : Int64))) (x3 - s.1) (s.2.1 (82 + 27) (Int32.toNatClampNeg s.1)) s.2) with
          | none => rw [hq1] at e1; cases e1
          | some q1 =>
            rw [hq1, Option.bind_some] at e1
            by_cases c4 : (Int32.toInt q1) = 0
            · rw [if_pos c4] at e1
              cases hq2 : (d_X10_hardest 82 ((s.2.2.1 82 47) &&& ((s.2.2.1 (82 + 24) (Int32.toNatClampNeg s.1)) ^^^ (-1 : Int64))) s.2) with
              | none => rw [hq2] at e1; cases e1
              | some q2 =>
                rw [hq2, Option.bind_some] at e1
                exact (kr_X10_canMake_b115  (kr_wi (kr_wi hI (by unfold krc; omega)) (by unfold krc; omega)) e1).2 _ rfl
            · rw [if_neg c4] at e1
              exact (kr_X10_canMake_b115  (kr_wi (kr_wi hI (by unfold krc; omega)) (by unfold krc; omega)) e1).2 _ rfl
      · rw [if_neg c2] at e1
        cases e1
        exact hI
theorem kr_X10_canMake {m : dc_M} {m0 : dc_M} {x1 : Int64} {x3 : Int32} {x4 : Int32} {e : (Int32 × dc_M)} (hD : kr m0 m) (h : d_X10_canMake 82 x1 x3 x4 m = some e) : kr m0 (e.2) := by
  unfold d_X10_canMake at h
  exact kr_X10_canMake_l26  (kr_wi (kr_wi (kr_wl hD (by unfold krc; omega)) (by unfold krc; omega)) (by unfold krc; omega)) h
theorem kr_X10_cubeAt_b127 {m : dc_M} {m0 : dc_M} {x1 : Int32} {x2 : Int64} {x4 : Int32} {x5 : Int32} {x6 : Int32} {x7 : Int32} {u : ((Int64 × Int32 × Int32 × Int32 × Int32 × dc_M) ⊕ (Int32 × dc_M))} (hD : kr m0 m) (h : d_X10_cubeAt_b127 82 x1 x2 x4 x5 x6 x7 m = some u) : (∀ s', u = .inl s' → kr m0 (s'.2.2.2.2.2)) ∧ (∀ e, u = .inr e → kr m0 (e.2)) := by
  unfold d_X10_cubeAt_b127 at h
  cases h
  exact ⟨fun _ q => (by cases q; exact hD), fun _ q => (by cases q)⟩
theorem kr_X10_cubeAt_l62 {m : dc_M} {m0 : dc_M} {x1 : Int32} {x2 : Int64} {x4 : Int32} {x5 : Int32} {x6 : Int32} {x7 : Int32} {x10 : Int32} {u : ((Int64 × Int32 × Int32 × Int32 × Int32 × dc_M) ⊕ (Int32 × dc_M))} (hD : kr m0 m) (h : d_X10_cubeAt_l62 82 x1 x2 x4 x5 x7 x10 x6 m = some u) : (∀ s', u = .inl s' → kr m0 (s'.2.2.2.2.2)) ∧ (∀ e, u = .inr e → kr m0 (e.2)) := by
  unfold d_X10_cubeAt_l62 at h
  refine dc_lp_inv (fun s => kr m0 (s.2)) (fun u => (∀ s', u = .inl s' → kr m0 (s'.2.2.2.2.2)) ∧ (∀ e, u = .inr e → kr m0 (e.2))) (fun s s' hI e1 => ?_) (fun s e' hI e1 => ?_) hD h
  · unfold d_X10_cubeAt_l62s d_X10_cubeAt_l62b at e1
    by_cases c1 : (Int32.toInt (lg_cmp (((s.2.2.1 (82 + 22) (Int32.toNatClampNeg s.1)) >>> (Int32.toInt64 x10 &&& 63)) &&& (1 : Int64)) (0 : Int64))) = 0
    · rw [if_pos c1] at e1
      cases e1
      exact hI
    · rw [if_neg c1] at e1
      by_cases c2 : (Int32.toInt x5) < (Int32.toInt (s.2.1 (82 + 23) (Int32.toNatClampNeg s.1)))
      · rw [if_pos c2] at e1
        cases e1
        exact hI
      · rw [if_neg c2] at e1
        cases hq1 : (d_X10_canMake 82 (x2 ||| (s.2.2.1 (82 + 22) (Int32.toNatClampNeg s.1))) (x4 - (1 : Int32)) (x5 - (s.2.1 (82 + 23) (Int32.toNatClampNeg s.1))) s.2) with
        | none => rw [hq1] at e1; cases e1
        | some q1 =>
          rw [hq1, Option.bind_some] at e1
          have dq1 := kr_X10_canMake hI hq1
          by_cases c3 : ¬ (Int32.toInt q1.1) = 0
          · rw [if_pos c3] at e1
            cases hz : d_X10_cubeAt_b127 82 x1 x2 x4 x5 s.1 x7 q1.2 with
            | none => rw [hz] at e1; cases e1
            | some z =>
              rw [hz] at e1
              cases e1
          · rw [if_neg c3] at e1
            cases e1
            exact dq1
  · unfold d_X10_cubeAt_l62s d_X10_cubeAt_l62b at e1
    by_cases c1 : (Int32.toInt (lg_cmp (((s.2.2.1 (82 + 22) (Int32.toNatClampNeg s.1)) >>> (Int32.toInt64 x10 &&& 63)) &&& (1 : Int64)) (0 : Int64))) = 0
    · rw [if_pos c1] at e1
      cases e1
    · rw [if_neg c1] at e1
      by_cases c2 : (Int32.toInt x5) < (Int32.toInt (s.2.1 (82 + 23) (Int32.toNatClampNeg s.1)))
      · rw [if_pos c2] at e1
        cases e1
      · rw [if_neg c2] at e1
        cases hq1 : (d_X10_canMake 82 (x2 ||| (s.2.2.1 (82 + 22) (Int32.toNatClampNeg s.1))) (x4 - (1 : Int32)) (x5 - (s.2.1 (82 + 23) (Int32.toNatClampNeg s.1))) s.2) with
        | none => rw [hq1] at e1; cases e1
        | some q1 =>
          rw [hq1, Option.bind_some] at e1
          have dq1 := kr_X10_canMake hI hq1
          by_cases c3 : ¬ (Int32.toInt q1.1) = 0
          · rw [if_pos c3] at e1
            cases hz : d_X10_cubeAt_b127 82 x1 x2 x4 x5 s.1 x7 q1.2 with
            | none => rw [hz] at e1; cases e1
            | some z =>
              rw [hz] at e1
              cases e1
              exact kr_X10_cubeAt_b127  dq1 hz
          · rw [if_neg c3] at e1
            cases e1
theorem kr_X10_cubeAt_l41 {m : dc_M} {m0 : dc_M} {x1 : Int32} {x2 : Int64} {x4 : Int32} {x5 : Int32} {x7 : Int32} {x8 : Int64} {x10 : Int32} {u : ((Int64 × Int32 × Int32 × Int32 × Int32 × dc_M) ⊕ (Int32 × dc_M))} (hD : kr m0 m) (h : d_X10_cubeAt_l41 82 x1 x2 x4 x5 x7 x8 x10 m = some u) : (∀ s', u = .inl s' → kr m0 (s'.2.2.2.2.2)) ∧ (∀ e, u = .inr e → kr m0 (e.2)) := by
  unfold d_X10_cubeAt_l41 at h
  refine dc_lp_inv (fun s => kr m0 m) (fun u => (∀ s', u = .inl s' → kr m0 (s'.2.2.2.2.2)) ∧ (∀ e, u = .inr e → kr m0 (e.2))) (fun s s' hI e1 => ?_) (fun s e' hI e1 => ?_) hD h
  · exact hI
  · unfold d_X10_cubeAt_l41s d_X10_cubeAt_l41b at e1
    by_cases c1 : ¬ (Int32.toInt (lg_cmp ((x8 >>> (Int32.toInt64 s &&& 63)) &&& (1 : Int64)) (0 : Int64))) = 0
    · rw [if_pos c1] at e1
      cases hz : d_X10_cubeAt_l62 82 x1 x2 x4 x5 x7 s (0 : Int32) m with
      | none => rw [hz] at e1; cases e1
      | some z =>
        rw [hz] at e1
        cases e1
        exact kr_X10_cubeAt_l62  hI hz
    · rw [if_neg c1] at e1
      cases e1
theorem kr_X10_cubeAt_l20 {m : dc_M} {m0 : dc_M} {x1 : Int32} {x2 : Int64} {x4 : Int32} {x5 : Int32} {x6 : Int32} {x7 : Int32} {e : (Int32 × dc_M)} (hD : kr m0 m) (h : d_X10_cubeAt_l20 82 x1 x2 x4 x5 x6 x7 m = some e) : kr m0 (e.2) := by
  unfold d_X10_cubeAt_l20 at h
  refine dc_lp_inv (fun s => kr m0 (s.2.2.2.2.2)) (fun e => kr m0 (e.2)) (fun s s' hI e1 => ?_) (fun s e' hI e1 => ?_) hD h
  · unfold d_X10_cubeAt_l20s d_X10_cubeAt_l20b at e1
    by_cases c1 : (Int32.toInt x1) < (Int32.toInt s.2.2.2.2.1)
    · rw [if_pos c1] at e1
      cases e1
    · rw [if_neg c1] at e1
      exact (kr_X10_cubeAt_l41  hI e1).1 _ rfl
  · unfold d_X10_cubeAt_l20s d_X10_cubeAt_l20b at e1
    by_cases c1 : (Int32.toInt x1) < (Int32.toInt s.2.2.2.2.1)
    · rw [if_pos c1] at e1
      cases e1
      exact hI
    · rw [if_neg c1] at e1
      exact (kr_X10_cubeAt_l41  hI e1).2 _ rfl
theorem kr_X10_cubeAt {m : dc_M} {m0 : dc_M} {x1 : Int32} {e : (Int32 × dc_M)} (hD : kr m0 m) (h : d_X10_cubeAt 82 x1 m = some e) : kr m0 (e.2) := by
  unfold d_X10_cubeAt at h
  exact kr_X10_cubeAt_l20  hD h
theorem kr_X10_layCubes_b126 {m : dc_M} {m0 : dc_M} {x1 : Int32} {x2 : Int64} {x4 : Int32} {u : ((Int32 × dc_M) ⊕ dc_M)} (hD : kr m0 m) (h : d_X10_layCubes_b126 82 x1 x2 x4 m = some u) : (∀ s', u = .inl s' → kr m0 (s'.2)) ∧ (∀ e, u = .inr e → kr m0 e) := by
  unfold d_X10_layCubes_b126 at h
  by_cases c1 : (Int32.toInt x4) = 0
  · rw [if_pos c1] at h
    cases h
    exact ⟨fun _ q => (by cases q; exact hD), fun _ q => (by cases q)⟩
  · rw [if_neg c1] at h
    cases hq1 : (d_X10_lettersOf 82 x1 (dc_wl (dc_wi m (82 + 21) (Int32.toNatClampNeg (m.1 82 49)) x1) (82 + 22) (Int32.toNatClampNeg ((dc_wi m (82 + 21) (Int32.toNatClampNeg (m.1 82 49)) x1).1 82 49)) (x2 &&& ((dc_wi m (82 + 21) (Int32.toNatClampNeg (m.1 82 49)) x1).2.1 82 47)))) with
    | none => rw [hq1] at h; cases h
    | some q1 =>
      rw [hq1, Option.bind_some] at h
      cases h
      exact ⟨fun _ q => (by cases q; exact (kr_wi (kr_wi (kr_wl (kr_wi hD (by unfold krc; omega)) (by unfold krc; omega)) (by unfold krc; omega)) (by unfold krc; omega))), fun _ q => (by cases q)⟩
theorem kr_X10_layCubes_l56 {m : dc_M} {m0 : dc_M} {x1 : Int32} {x2 : Int64} {x4 : Int32} {x5 : Int32} {x6 : Int32} {u : ((Int32 × dc_M) ⊕ dc_M)} (hD : kr m0 m) (h : d_X10_layCubes_l56 82 x1 x2 x4 x5 x6 m = some u) : (∀ s', u = .inl s' → kr m0 (s'.2)) ∧ (∀ e, u = .inr e → kr m0 e) := by
  unfold d_X10_layCubes_l56 at h
  refine dc_lp_inv (fun s => kr m0 m) (fun u => (∀ s', u = .inl s' → kr m0 (s'.2)) ∧ (∀ e, u = .inr e → kr m0 e)) (fun s s' hI e1 => ?_) (fun s e' hI e1 => ?_) hD h
  · exact hI
  · unfold d_X10_layCubes_l56s d_X10_layCubes_l56b at e1
    by_cases c1 : (Int32.toInt (m.1 82 0)) ≤ (Int32.toInt s.2.2)
    · rw [if_pos c1] at e1
      cases hz : d_X10_layCubes_b126 82 x1 x2 s.1 m with
      | none => rw [hz] at e1; cases e1
      | some z =>
        rw [hz] at e1
        cases e1
        exact kr_X10_layCubes_b126  hI hz
    · rw [if_neg c1] at e1
      by_cases c2 : (Int32.toInt s.1) = 0
      · rw [if_pos c2] at e1
        cases hz : d_X10_layCubes_b126 82 x1 x2 s.1 m with
        | none => rw [hz] at e1; cases e1
        | some z =>
          rw [hz] at e1
          cases e1
          exact kr_X10_layCubes_b126  hI hz
      · rw [if_neg c2] at e1
        by_cases c3 : (Int32.toInt ((x1 / s.2.1) - (x1 / s.2.1) / (3 : Int32) * (3 : Int32))) = 2
        · rw [if_pos c3] at e1
          cases e1
        · rw [if_neg c3] at e1
          cases hq1 : (d_X10_levelsOf 82 (x1 + (((2 : Int32) - ((x1 / s.2.1) - (x1 / s.2.1) / (3 : Int32) * (3 : Int32))) * s.2.1)) m) with
          | none => rw [hq1] at e1; cases e1
          | some q1 =>
            rw [hq1, Option.bind_some] at e1
            by_cases c4 : (Int32.toInt (lg_cmp (q1 &&& (m.2.1 82 48)) (0 : Int64))) = 0
            · rw [if_pos c4] at e1
              cases e1
            · rw [if_neg c4] at e1
              cases e1
theorem kr_X10_layCubes_l7 {m : dc_M} {m0 : dc_M} {x1 : Int32} {e : dc_M} (hD : kr m0 m) (h : d_X10_layCubes_l7 82 x1 m = some e) : kr m0 e := by
  unfold d_X10_layCubes_l7 at h
  refine dc_lp_inv (fun s => kr m0 (s.2)) (fun e => kr m0 e) (fun s s' hI e1 => ?_) (fun s e' hI e1 => ?_) hD h
  · unfold d_X10_layCubes_l7s d_X10_layCubes_l7b at e1
    cases hq1 : (d_X10_cubeAll 82 s.2) with
    | none => rw [hq1] at e1; cases e1
    | some q1 =>
      rw [hq1, Option.bind_some] at e1
      by_cases c1 : (Int32.toInt q1) ≤ (Int32.toInt s.1)
      · rw [if_pos c1] at e1
        cases e1
      · rw [if_neg c1] at e1
        cases hq2 : (d_X10_levelsOf 82 s.1 s.2) with
        | none => rw [hq2] at e1; cases e1
        | some q2 =>
          rw [hq2, Option.bind_some] at e1
          by_cases c2 : ¬ (Int32.toInt (lg_cmp (q2 &&& (s.2.2.1 82 48)) (0 : Int64))) = 0
          · rw [if_pos c2] at e1
            exact (kr_X10_layCubes_l56  hI e1).1 _ rfl
          · rw [if_neg c2] at e1
            by_cases c3 : (Int32.toInt (lg_cmp (q2 &&& (s.2.2.1 82 47)) (0 : Int64))) = 0
            · rw [if_pos c3] at e1
              exact (kr_X10_layCubes_l56  hI e1).1 _ rfl
            · rw [if_neg c3] at e1
              exact (kr_X10_layCubes_l56  hI e1).1 _ rfl
  · unfold d_X10_layCubes_l7s d_X10_layCubes_l7b at e1
    cases hq1 : (d_X10_cubeAll 82 s.2) with
    | none => rw [hq1] at e1; cases e1
    | some q1 =>
      rw [hq1, Option.bind_some] at e1
      by_cases c1 : (Int32.toInt q1) ≤ (Int32.toInt s.1)
      · rw [if_pos c1] at e1
        cases e1
        exact hI
      · rw [if_neg c1] at e1
        cases hq2 : (d_X10_levelsOf 82 s.1 s.2) with
        | none => rw [hq2] at e1; cases e1
        | some q2 =>
          rw [hq2, Option.bind_some] at e1
          by_cases c2 : ¬ (Int32.toInt (lg_cmp (q2 &&& (s.2.2.1 82 48)) (0 : Int64))) = 0
          · rw [if_pos c2] at e1
            exact (kr_X10_layCubes_l56  hI e1).2 _ rfl
          · rw [if_neg c2] at e1
            by_cases c3 : (Int32.toInt (lg_cmp (q2 &&& (s.2.2.1 82 47)) (0 : Int64))) = 0
            · rw [if_pos c3] at e1
              exact (kr_X10_layCubes_l56  hI e1).2 _ rfl
            · rw [if_neg c3] at e1
              exact (kr_X10_layCubes_l56  hI e1).2 _ rfl
theorem kr_X10_layCubes {m : dc_M} {m0 : dc_M}  {e : dc_M} (hD : kr m0 m) (h : d_X10_layCubes 82 m = some e) : kr m0 e := by
  unfold d_X10_layCubes at h
  exact kr_X10_layCubes_l7  (kr_wi hD (by unfold krc; omega)) h
theorem kr_X10_layMakes_l42 {m : dc_M} {m0 : dc_M}  {e : dc_M} (hD : kr m0 m) (h : d_X10_layMakes_l42 82 m = some e) : kr m0 e := by
  unfold d_X10_layMakes_l42 at h
  refine dc_lp_inv (fun s => kr m0 s) (fun e => kr m0 e) (fun s s' hI e1 => ?_) (fun s e' hI e1 => ?_) hD h
  · unfold d_X10_layMakes_l42s d_X10_layMakes_l42b at e1
    cases hq1 : (d_X10_canMake 82 (0 : Int64) (s.1 82 57) (s.1 82 58) s) with
    | none => rw [hq1] at e1; cases e1
    | some q1 =>
      rw [hq1, Option.bind_some] at e1
      have dq1 := kr_X10_canMake hI hq1
      by_cases c1 : ¬ (Int32.toInt q1.1) = 0
      · rw [if_pos c1] at e1
        cases e1
      · rw [if_neg c1] at e1
        cases e1
        exact (kr_wi dq1 (by unfold krc; omega))
  · unfold d_X10_layMakes_l42s d_X10_layMakes_l42b at e1
    cases hq1 : (d_X10_canMake 82 (0 : Int64) (s.1 82 57) (s.1 82 58) s) with
    | none => rw [hq1] at e1; cases e1
    | some q1 =>
      rw [hq1, Option.bind_some] at e1
      have dq1 := kr_X10_canMake hI hq1
      by_cases c1 : ¬ (Int32.toInt q1.1) = 0
      · rw [if_pos c1] at e1
        cases e1
        exact dq1
      · rw [if_neg c1] at e1
        cases e1
theorem kr_X10_layMakes_l9 {m : dc_M} {m0 : dc_M}  {e : dc_M} (hD : kr m0 m) (h : d_X10_layMakes_l9 82 m = some e) : kr m0 e := by
  unfold d_X10_layMakes_l9 at h
  refine dc_lp_inv (fun s => kr m0 s) (fun e => kr m0 e) (fun s s' hI e1 => ?_) (fun s e' hI e1 => ?_) hD h
  · unfold d_X10_layMakes_l9s d_X10_layMakes_l9b at e1
    cases hq1 : (d_X10_canMake 82 (0 : Int64) (s.1 82 57) (1000 : Int32) s) with
    | none => rw [hq1] at e1; cases e1
    | some q1 =>
      rw [hq1, Option.bind_some] at e1
      have dq1 := kr_X10_canMake hI hq1
      by_cases c1 : ¬ (Int32.toInt q1.1) = 0
      · rw [if_pos c1] at e1
        cases hz : d_X10_layMakes_l42 82 (dc_wi q1.2 82 58 (0 : Int32)) with
        | none => rw [hz] at e1; cases e1
        | some z =>
          rw [hz] at e1
          cases e1
      · rw [if_neg c1] at e1
        cases e1
        exact (kr_wi dq1 (by unfold krc; omega))
  · unfold d_X10_layMakes_l9s d_X10_layMakes_l9b at e1
    cases hq1 : (d_X10_canMake 82 (0 : Int64) (s.1 82 57) (1000 : Int32) s) with
    | none => rw [hq1] at e1; cases e1
    | some q1 =>
      rw [hq1, Option.bind_some] at e1
      have dq1 := kr_X10_canMake hI hq1
      by_cases c1 : ¬ (Int32.toInt q1.1) = 0
      · rw [if_pos c1] at e1
        cases hz : d_X10_layMakes_l42 82 (dc_wi q1.2 82 58 (0 : Int32)) with
        | none => rw [hz] at e1; cases e1
        | some z =>
          rw [hz] at e1
          cases e1
          exact kr_X10_layMakes_l42  (kr_wi dq1 (by unfold krc; omega)) hz
      · rw [if_neg c1] at e1
        cases e1
theorem kr_X10_layMakes {m : dc_M} {m0 : dc_M}  {e : dc_M} (hD : kr m0 m) (h : d_X10_layMakes 82 m = some e) : kr m0 e := by
  unfold d_X10_layMakes at h
  cases hq1 : (d_X10_layCubes 82 m) with
  | none => rw [hq1] at h; cases h
  | some q1 =>
    rw [hq1, Option.bind_some] at h
    have dq1 := kr_X10_layCubes hD hq1
    exact kr_X10_layMakes_l9  (kr_wi dq1 (by unfold krc; omega)) h
theorem kr_X10_makes_b34 {m : dc_M} {m0 : dc_M} {x1 : Int32} {x2 : Int32} {e : (Int32 × dc_M)} (hD : kr m0 m) (h : d_X10_makes_b34 82 x1 x2 m = some e) : kr m0 (e.2) := by
  unfold d_X10_makes_b34 at h
  cases hq1 : (d_X10_layRight 82 m) with
  | none => rw [hq1] at h; cases h
  | some q1 =>
    rw [hq1, Option.bind_some] at h
    have dq1 := kr_X10_layRight hD hq1
    by_cases c1 : ¬ (Int32.toInt q1.1) = 0
    · rw [if_pos c1] at h
      cases hq2 : (d_X10_layAims 82 x1 q1.2) with
      | none => rw [hq2] at h; cases h
      | some q2 =>
        rw [hq2, Option.bind_some] at h
        have dq2 := kr_X10_layAims dq1 hq2
        by_cases c2 : (Int32.toInt (lg_cmp ((q2.2.1 82 47) &&& (q2.2.1 82 48)) (0 : Int64))) = 0
        · rw [if_pos c2] at h
          cases hq3 : (d_X10_layMakes 82 q2) with
          | none => rw [hq3] at h; cases h
          | some q3 =>
            rw [hq3, Option.bind_some] at h
            have dq3 := kr_X10_layMakes dq2 hq3
            by_cases c3 : ¬ (Int32.toInt x2) = 0
            · rw [if_pos c3] at h
              by_cases c4 : ¬ (Int32.toInt x2) = 1
              · rw [if_pos c4] at h
                by_cases c5 : (Int32.toInt (q3.1 82 57)) ≤ (Int32.toInt (x2 - (10 : Int32)))
                · rw [if_pos c5] at h
                  cases h
                  exact dq3
                · rw [if_neg c5] at h
                  cases hq4 : (d_X10_cubeAt 82 (x2 - (10 : Int32)) q3) with
                  | none => rw [hq4] at h; cases h
                  | some q4 =>
                    rw [hq4, Option.bind_some] at h
                    have dq4 := kr_X10_cubeAt dq3 hq4
                    cases h
                    exact dq4
              · rw [if_neg c4] at h
                cases h
                exact dq3
            · rw [if_neg c3] at h
              cases h
              exact dq3
        · rw [if_neg c2] at h
          cases h
          exact dq2
    · rw [if_neg c1] at h
      cases h
      exact dq1
theorem kr_X10_makes {m : dc_M} {m0 : dc_M} {x1 : Int32} {x2 : Int32} {e : (Int32 × dc_M)} (hD : kr m0 m) (h : d_X10_makes 82 x1 x2 m = some e) : kr m0 (e.2) := by
  unfold d_X10_makes at h
  by_cases c1 : (Int32.toInt (d_X10_isOwn 82 x1 m)) = 0
  · rw [if_pos c1] at h
    cases h
    exact hD
  · rw [if_neg c1] at h
    by_cases c2 : ¬ (Int32.toInt (d_X10_in (Int32.toInt64 x2) (0 : Int64) (1 : Int64) m)) = 0
    · rw [if_pos c2] at h
      exact kr_X10_makes_b34  hD h
    · rw [if_neg c2] at h
      by_cases c3 : ¬ (Int32.toInt (d_X10_in (Int32.toInt64 x2) (10 : Int64) (73 : Int64) m)) = 0
      · rw [if_pos c3] at h
        exact kr_X10_makes_b34  hD h
      · rw [if_neg c3] at h
        cases h
        exact hD
theorem kr_X10_cost_l28 {m : dc_M} {m0 : dc_M} {x1 : Int32} {x2 : Int32} {e : (Int32 × dc_M)} (hD : kr m0 m) (h : d_X10_cost_l28 82 x1 x2 m = some e) : kr m0 (e.2) := by
  unfold d_X10_cost_l28 at h
  refine dc_lp_inv (fun s => kr m0 (s.2.2)) (fun e => kr m0 (e.2)) (fun s s' hI e1 => ?_) (fun s e' hI e1 => ?_) hD h
  · unfold d_X10_cost_l28s d_X10_cost_l28b at e1
    by_cases c1 : (Int32.toInt (s.2.2.1 82 0)) ≤ (Int32.toInt s.2.1)
    · rw [if_pos c1] at e1
      cases e1
    · rw [if_neg c1] at e1
      by_cases c2 : (Int32.toInt (s.2.2.1 (82 + 2) (Int32.toNatClampNeg s.2.1))) ≤ 0
      · rw [if_pos c2] at e1
        cases e1
        exact hI
      · rw [if_neg c2] at e1
        cases hq1 : (d_X10_layAims 82 s.2.1 s.2.2) with
        | none => rw [hq1] at e1; cases e1
        | some q1 =>
          rw [hq1, Option.bind_some] at e1
          have dq1 := kr_X10_layAims hI hq1
          cases hq2 : (d_X10_layMakes 82 q1) with
          | none => rw [hq2] at e1; cases e1
          | some q2 =>
            rw [hq2, Option.bind_some] at e1
            have dq2 := kr_X10_layMakes dq1 hq2
            cases e1
            exact dq2
  · unfold d_X10_cost_l28s d_X10_cost_l28b at e1
    by_cases c1 : (Int32.toInt (s.2.2.1 82 0)) ≤ (Int32.toInt s.2.1)
    · rw [if_pos c1] at e1
      cases e1
      exact hI
    · rw [if_neg c1] at e1
      by_cases c2 : (Int32.toInt (s.2.2.1 (82 + 2) (Int32.toNatClampNeg s.2.1))) ≤ 0
      · rw [if_pos c2] at e1
        cases e1
      · rw [if_neg c2] at e1
        cases hq1 : (d_X10_layAims 82 s.2.1 s.2.2) with
        | none => rw [hq1] at e1; cases e1
        | some q1 =>
          rw [hq1, Option.bind_some] at e1
          have dq1 := kr_X10_layAims hI hq1
          cases hq2 : (d_X10_layMakes 82 q1) with
          | none => rw [hq2] at e1; cases e1
          | some q2 =>
            rw [hq2, Option.bind_some] at e1
            have dq2 := kr_X10_layMakes dq1 hq2
            cases e1
theorem kr_X10_cost {m : dc_M} {m0 : dc_M}  {e : (Int32 × dc_M)} (hD : kr m0 m) (h : d_X10_cost 82 m = some e) : kr m0 (e.2) := by
  unfold d_X10_cost at h
  cases hq1 : (d_X10_layRight 82 m) with
  | none => rw [hq1] at h; cases h
  | some q1 =>
    rw [hq1, Option.bind_some] at h
    have dq1 := kr_X10_layRight hD hq1
    by_cases c1 : ¬ (Int32.toInt q1.1) = 0
    · rw [if_pos c1] at h
      cases hq2 : (d_X10_layQuarrels 82 q1.2) with
      | none => rw [hq2] at h; cases h
      | some q2 =>
        rw [hq2, Option.bind_some] at h
        have dq2 := kr_X10_layQuarrels dq1 hq2
        by_cases c2 : (Int32.toInt (q2.1 82 40)) ≤ 0
        · rw [if_pos c2] at h
          exact kr_X10_cost_l28  dq2 h
        · rw [if_neg c2] at h
          cases h
          exact dq2
    · rw [if_neg c1] at h
      cases h
      exact dq1
