/-! ===== exploring leaves all but the space's cells (written by a program) ===== -/
theorem fx_wi {x : Nat} {c0 m : dc_M} {a k : Nat} {v : Int32} (h : FC x c0 m) (hs : x ≤ a ∧ a ≤ x + 7) : FC x c0 (dc_wi m a k v) := h.wi hs
theorem fx_fill {x : Nat} {c0 m e : dc_M} {v : Int32} (hD : FC x c0 m) (h : d_J7_fill_53178 (x + 6) v m = some e) : FC x c0 e := by
  unfold d_J7_fill_53178 d_J7_fill_53178_l5 at h
  refine dc_lp_inv (f := d_J7_fill_53178_l5s (x + 6) v (Int32.ofNat (m.2.2.2 (x + 6)).2)) (s := (0, m)) (fun s : Int32 × dc_M => FC x c0 s.2) (fun e => FC x c0 e) (fun s s' hI hs => ?_) (fun s e hI hs => ?_) hD h
  · unfold d_J7_fill_53178_l5s d_J7_fill_53178_l5b at hs
    split at hs
    · cases hs
    · cases hs
      exact FC.wi hI (by omega)
  · unfold d_J7_fill_53178_l5s d_J7_fill_53178_l5b at hs
    split at hs
    · cases hs
      exact hI
    · cases hs
theorem fx_X7_meet_b65 {m : dc_M} {x : Nat} {c0 : dc_M} {x1 : Int32} {x2 : Int32} {x3 : Int32} {e : (Int32 × dc_M)} (hD : FC x c0 m) (h : d_X7_meet_b65 x x1 x2 x3 m = some e) : FC x c0 (e.2) := by
  unfold d_X7_meet_b65 at h
  by_cases c1 : (Int32.toInt (m.1 x 0)) < 200
  · rw [if_pos c1] at h
    cases h
    exact (fx_wi (fx_wi (fx_wi (fx_wi hD (by omega)) (by omega)) (by omega)) (by omega))
  · rw [if_neg c1] at h
    cases h
    exact hD
theorem fx_X7_meet_l11 {m : dc_M} {x : Nat} {c0 : dc_M} {x1 : Int32} {x2 : Int32} {x3 : Int32} {x4 : Int32} {e : (Int32 × dc_M)} (hD : FC x c0 m) (h : d_X7_meet_l11 x x1 x2 x3 x4 m = some e) : FC x c0 (e.2) := by
  unfold d_X7_meet_l11 at h
  refine dc_lp_inv (fun s => FC x c0 m) (fun e => FC x c0 (e.2)) (fun s s' hI e1 => ?_) (fun s e' hI e1 => ?_) hD h
  · exact hI
  · unfold d_X7_meet_l11s d_X7_meet_l11b at e1
    by_cases c1 : 512 ≤ (Int32.toInt s.2)
    · rw [if_pos c1] at e1
      cases hz : d_X7_meet_b65 x x1 x2 s.1 m with
      | none => rw [hz] at e1; cases e1
      | some z =>
        rw [hz] at e1
        cases e1
        exact fx_X7_meet_b65  hI hz
    · rw [if_neg c1] at e1
      by_cases c2 : 0 ≤ (Int32.toInt ((m.1 (x + 6) (Int32.toNatClampNeg s.1)) - (1 : Int32)))
      · rw [if_pos c2] at e1
        by_cases c3 : ¬ (Int32.toInt (m.1 (x + 1) (Int32.toNatClampNeg ((m.1 (x + 6) (Int32.toNatClampNeg s.1)) - (1 : Int32))))) = (Int32.toInt x1)
        · rw [if_pos c3] at e1
          cases e1
        · rw [if_neg c3] at e1
          cases e1
          exact hI
      · rw [if_neg c2] at e1
        cases hz : d_X7_meet_b65 x x1 x2 s.1 m with
        | none => rw [hz] at e1; cases e1
        | some z =>
          rw [hz] at e1
          cases e1
          exact fx_X7_meet_b65  hI hz
theorem fx_X7_meet {m : dc_M} {x : Nat} {c0 : dc_M} {x1 : Int32} {x2 : Int32} {e : (Int32 × dc_M)} (hD : FC x c0 m) (h : d_X7_meet x x1 x2 m = some e) : FC x c0 (e.2) := by
  unfold d_X7_meet at h
  exact fx_X7_meet_l11  hD h
theorem fx_X7_expand_b136 {m : dc_M} {x : Nat} {c0 : dc_M} {x2 : Int32} {x4 : Int32} {x5 : Int32} {e : dc_M} (hD : FC x c0 m) (h : d_X7_expand_b136 x x2 x4 x5 m = some e) : FC x c0 e := by
  unfold d_X7_expand_b136 at h
  cases h
  exact (fx_wi (fx_wi (fx_wi hD (by omega)) (by omega)) (by omega))
theorem fx_X7_expand_l16 {m : dc_M} {x : Nat} {c0 : dc_M} {x1 : Nat} {x2 : Int32} {x3 : Int32} {x4 : Int32} {x5 : Int32} {x6 : Int32} {e : dc_M} (hD : FC x c0 m) (h : d_X7_expand_l16 x x1 x2 x3 x4 x5 x6 m = some e) : FC x c0 e := by
  unfold d_X7_expand_l16 at h
  refine dc_lp_inv (fun s => FC x c0 (s.2.2.2)) (fun e => FC x c0 e) (fun s s' hI e1 => ?_) (fun s e' hI e1 => ?_) hD h
  · unfold d_X7_expand_l16s d_X7_expand_l16b at e1
    by_cases c1 : (Int32.toInt (s.2.2.2.1 x1 1)) ≤ (Int32.toInt s.2.2.1)
    · rw [if_pos c1] at e1
      cases hz : d_X7_expand_b136 x x2 s.1 s.2.1 s.2.2.2 with
      | none => rw [hz] at e1; cases e1
      | some z =>
        rw [hz] at e1
        cases e1
    · rw [if_neg c1] at e1
      by_cases c2 : ¬ (Int32.toInt (d_X3_isReady x1 x3 s.2.2.1 s.2.2.2)) = 0
      · rw [if_pos c2] at e1
        by_cases c3 : (Int32.toInt (d_X3_isUnsafe x1 x3 s.2.2.1 s.2.2.2)) = 0
        · rw [if_pos c3] at e1
          cases hq1 : (d_X7_meet x (d_X3_after x1 x3 s.2.2.1 s.2.2.2) ((s.2.2.2.1 (x + 3) (Int32.toNatClampNeg x2)) ^^^ ((1 : Int32) <<< ((s.2.2.2.1 (x1 + 3) (Int32.toNatClampNeg s.2.2.1)) &&& 31))) s.2.2.2) with
          | none => rw [hq1] at e1; cases e1
          | some q1 =>
            rw [hq1, Option.bind_some] at e1
            have dq1 := fx_X7_meet hI hq1
            by_cases c4 : 0 ≤ (Int32.toInt q1.1)
            · rw [if_pos c4] at e1
              cases e1
              exact (fx_wi dq1 (by omega))
            · rw [if_neg c4] at e1
              cases e1
        · rw [if_neg c3] at e1
          cases e1
      · rw [if_neg c2] at e1
        cases e1
        exact hI
  · unfold d_X7_expand_l16s d_X7_expand_l16b at e1
    by_cases c1 : (Int32.toInt (s.2.2.2.1 x1 1)) ≤ (Int32.toInt s.2.2.1)
    · rw [if_pos c1] at e1
      cases hz : d_X7_expand_b136 x x2 s.1 s.2.1 s.2.2.2 with
      | none => rw [hz] at e1; cases e1
      | some z =>
        rw [hz] at e1
        cases e1
        exact fx_X7_expand_b136  hI hz
    · rw [if_neg c1] at e1
      by_cases c2 : ¬ (Int32.toInt (d_X3_isReady x1 x3 s.2.2.1 s.2.2.2)) = 0
      · rw [if_pos c2] at e1
        by_cases c3 : (Int32.toInt (d_X3_isUnsafe x1 x3 s.2.2.1 s.2.2.2)) = 0
        · rw [if_pos c3] at e1
          cases hq1 : (d_X7_meet x (d_X3_after x1 x3 s.2.2.1 s.2.2.2) ((s.2.2.2.1 (x + 3) (Int32.toNatClampNeg x2)) ^^^ ((1 : Int32) <<< ((s.2.2.2.1 (x1 + 3) (Int32.toNatClampNeg s.2.2.1)) &&& 31))) s.2.2.2) with
          | none => rw [hq1] at e1; cases e1
          | some q1 =>
            rw [hq1, Option.bind_some] at e1
            have dq1 := fx_X7_meet hI hq1
            by_cases c4 : 0 ≤ (Int32.toInt q1.1)
            · rw [if_pos c4] at e1
              cases e1
            · rw [if_neg c4] at e1
              cases e1
              exact (fx_wi dq1 (by omega))
        · rw [if_neg c3] at e1
          cases e1
          exact (fx_wi hI (by omega))
      · rw [if_neg c2] at e1
        cases e1
theorem fx_X7_expand {m : dc_M} {x : Nat} {c0 : dc_M} {x1 : Nat} {x2 : Int32} {e : dc_M} (hD : FC x c0 m) (h : d_X7_expand x x1 x2 m = some e) : FC x c0 e := by
  unfold d_X7_expand at h
  exact fx_X7_expand_l16  hD h
theorem fx_X7_tellLevels_l163 {m : dc_M} {x : Nat} {c0 : dc_M} {x3 : Int32} {x4 : Int32} {e : (Int32 × dc_M)} (hD : FC x c0 m) (h : d_X7_tellLevels_l163 x x3 x4 m = some e) : FC x c0 (e.2) := by
  unfold d_X7_tellLevels_l163 at h
  refine dc_lp_inv (fun s => FC x c0 (s.2)) (fun e => FC x c0 (e.2)) (fun s s' hI e1 => ?_) (fun s e' hI e1 => ?_) hD h
  · unfold d_X7_tellLevels_l163s d_X7_tellLevels_l163b at e1
    by_cases c1 : (Int32.toInt (s.2.1 x 0)) ≤ (Int32.toInt s.1)
    · rw [if_pos c1] at e1
      cases e1
    · rw [if_neg c1] at e1
      cases e1
      exact (fx_wi hI (by omega))
  · unfold d_X7_tellLevels_l163s d_X7_tellLevels_l163b at e1
    by_cases c1 : (Int32.toInt (s.2.1 x 0)) ≤ (Int32.toInt s.1)
    · rw [if_pos c1] at e1
      cases e1
      exact hI
    · rw [if_neg c1] at e1
      cases e1
theorem fx_X7_tellLevels_b107 {m : dc_M} {x : Nat} {c0 : dc_M} {x1 : Nat} {x2 : Int32} {x3 : Int32} {x4 : Int32} {x5 : Int32} {x6 : Int32} {s0 : Int32} {u : ((Int32 × Int32 × Int32) ⊕ ((Int32 × Int32 × Int32) ⊕ (Int32 × dc_M)))} (hD : FC x c0 m) (h : d_X7_tellLevels_b107 x x1 x2 x3 x4 x5 x6 s0 m = some u) : (∀ s', u = .inl s' → FC x c0 m) ∧ (∀ s', u = Sum.inr (Sum.inl s') → FC x c0 m) ∧ (∀ e, u = Sum.inr (Sum.inr e) → FC x c0 (e.2)) := by
  unfold d_X7_tellLevels_b107 at h
  by_cases c1 : (Int32.toInt (x2 &&& x6)) = 0
  · rw [if_pos c1] at h
    cases h
    exact ⟨fun _ q => (by cases q; exact hD), fun _ q => (by cases q), fun _ q => (by cases q)⟩
  · rw [if_neg c1] at h
    by_cases c2 : (Int32.toInt (x3 &&& x6)) = (Int32.toInt (s0 ^^^ ((m.1 (x + 3) (Int32.toNatClampNeg x4)) &&& x6)))
    · rw [if_pos c2] at h
      cases h
      exact ⟨fun _ q => (by cases q; exact hD), fun _ q => (by cases q), fun _ q => (by cases q)⟩
    · rw [if_neg c2] at h
      cases h
      exact ⟨fun _ q => (by cases q), fun _ q => (by cases q), fun _ q => (by cases q; exact hD)⟩
theorem fx_X7_tellLevels_l19 {m : dc_M} {x : Nat} {c0 : dc_M} {x1 : Nat} {x2 : Int32} {x3 : Int32} {x4 : Int32} {x5 : Int32} {u : ((Int32 × Int32 × Int32) ⊕ (Int32 × dc_M))} (hD : FC x c0 m) (h : d_X7_tellLevels_l19 x x1 x4 x2 x3 x5 m = some u) : (∀ s', u = .inl s' → FC x c0 m) ∧ (∀ e, u = .inr e → FC x c0 (e.2)) := by
  unfold d_X7_tellLevels_l19 at h
  refine dc_lp_inv (fun s => FC x c0 m) (fun u => (∀ s', u = .inl s' → FC x c0 m) ∧ (∀ e, u = .inr e → FC x c0 (e.2))) (fun s s' hI e1 => ?_) (fun s e' hI e1 => ?_) hD h
  · exact hI
  · unfold d_X7_tellLevels_l19s d_X7_tellLevels_l19b at e1
    by_cases c1 : (Int32.toInt (m.1 x1 1)) ≤ (Int32.toInt s.2.2)
    · rw [if_pos c1] at e1
      cases e1
      exact ⟨fun _ q => (by cases q; exact hI), fun _ q => (by cases q)⟩
    · rw [if_neg c1] at e1
      by_cases c2 : ¬ (Int32.toInt (((m.1 (x + 2) (Int32.toNatClampNeg x4)) >>> (s.2.2 &&& 31)) &&& (1 : Int32))) = 0
      · rw [if_pos c2] at e1
        by_cases c3 : (Int32.toInt ((m.1 (x + 3) (Int32.toNatClampNeg x4)) ^^^ ((1 : Int32) <<< ((m.1 (x1 + 3) (Int32.toNatClampNeg s.2.2)) &&& 31)))) = (Int32.toInt (m.1 (x + 3) (Int32.toNatClampNeg (m.1 (x + 5) (Int32.toNatClampNeg ((x4 * (16 : Int32)) + s.2.2))))))
        · rw [if_pos c3] at e1
          by_cases c4 : ¬ (Int32.toInt (m.1 (x1 + 4) (Int32.toNatClampNeg s.2.2))) = 1
          · rw [if_pos c4] at e1
            exact ⟨fun _ q => (by cases q; exact (fx_X7_tellLevels_b107  hI e1).2.1 _ rfl), fun _ q => (by cases q; exact (fx_X7_tellLevels_b107  hI e1).2.2 _ rfl)⟩
          · rw [if_neg c4] at e1
            exact ⟨fun _ q => (by cases q; exact (fx_X7_tellLevels_b107  hI e1).2.1 _ rfl), fun _ q => (by cases q; exact (fx_X7_tellLevels_b107  hI e1).2.2 _ rfl)⟩
        · rw [if_neg c3] at e1
          cases e1
          exact ⟨fun _ q => (by cases q), fun _ q => (by cases q; exact hI)⟩
      · rw [if_neg c2] at e1
        cases e1
theorem fx_X7_tellLevels_l7 {m : dc_M} {x : Nat} {c0 : dc_M} {x1 : Nat} {x2 : Int32} {x3 : Int32} {x4 : Int32} {e : (Int32 × dc_M)} (hD : FC x c0 m) (h : d_X7_tellLevels_l7 x x1 x2 x3 x4 m = some e) : FC x c0 (e.2) := by
  unfold d_X7_tellLevels_l7 at h
  refine dc_lp_inv (fun s => FC x c0 m) (fun e => FC x c0 (e.2)) (fun s s' hI e1 => ?_) (fun s e' hI e1 => ?_) hD h
  · exact hI
  · unfold d_X7_tellLevels_l7s d_X7_tellLevels_l7b at e1
    by_cases c1 : (Int32.toInt (m.1 x 0)) ≤ (Int32.toInt s.2.2)
    · rw [if_pos c1] at e1
      cases hz : d_X7_tellLevels_l163 x s.2.1 (0 : Int32) m with
      | none => rw [hz] at e1; cases e1
      | some z =>
        rw [hz] at e1
        cases e1
        exact fx_X7_tellLevels_l163  hI hz
    · rw [if_neg c1] at e1
      exact (fx_X7_tellLevels_l19  hI e1).2 _ rfl
theorem fx_X7_tellLevels {m : dc_M} {x : Nat} {c0 : dc_M} {x1 : Nat} {e : (Int32 × dc_M)} (hD : FC x c0 m) (h : d_X7_tellLevels x x1 m = some e) : FC x c0 (e.2) := by
  unfold d_X7_tellLevels at h
  exact fx_X7_tellLevels_l7  hD h
theorem fx_X7_explore_b80 {m : dc_M} {x : Nat} {c0 : dc_M} {x1 : Nat} {e : dc_M} (hD : FC x c0 m) (h : d_X7_explore_b80 x x1 m = some e) : FC x c0 e := by
  unfold d_X7_explore_b80 at h
  by_cases c1 : ¬ (Int32.toInt (m.1 x 1)) = 0
  · rw [if_pos c1] at h
    cases h
    exact (fx_wi hD (by omega))
  · rw [if_neg c1] at h
    cases hq1 : (d_X7_tellLevels x x1 m) with
    | none => rw [hq1] at h; cases h
    | some q1 =>
      rw [hq1, Option.bind_some] at h
      have dq1 := fx_X7_tellLevels hD hq1
      by_cases c2 : (Int32.toInt q1.1) = 0
      · rw [if_pos c2] at h
        cases h
        exact (fx_wi dq1 (by omega))
      · rw [if_neg c2] at h
        cases h
        exact (fx_wi dq1 (by omega))
theorem fx_X7_explore_b68 {m : dc_M} {x : Nat} {c0 : dc_M} {x1 : Nat} {e : dc_M} (hD : FC x c0 m) (h : d_X7_explore_b68 x x1 m = some e) : FC x c0 e := by
  unfold d_X7_explore_b68 at h
  by_cases c1 : (Int32.toInt (m.1 x 1)) = 0
  · rw [if_pos c1] at h
    exact fx_X7_explore_b80  hD h
  · rw [if_neg c1] at h
    exact fx_X7_explore_b80  (fx_wi hD (by omega)) h
theorem fx_X7_explore_l41 {m : dc_M} {x : Nat} {c0 : dc_M} {x1 : Nat} {x2 : Int32} {e : dc_M} (hD : FC x c0 m) (h : d_X7_explore_l41 x x1 x2 m = some e) : FC x c0 e := by
  unfold d_X7_explore_l41 at h
  refine dc_lp_inv (fun s => FC x c0 (s.2)) (fun e => FC x c0 e) (fun s s' hI e1 => ?_) (fun s e' hI e1 => ?_) hD h
  · unfold d_X7_explore_l41s d_X7_explore_l41b at e1
    by_cases c1 : (Int32.toInt (s.2.1 x 0)) ≤ (Int32.toInt s.1)
    · rw [if_pos c1] at e1
      cases hz : d_X7_explore_b68 x x1 s.2 with
      | none => rw [hz] at e1; cases e1
      | some z =>
        rw [hz] at e1
        cases e1
    · rw [if_neg c1] at e1
      by_cases c2 : ¬ (Int32.toInt (s.2.1 x 1)) = 0
      · rw [if_pos c2] at e1
        cases hz : d_X7_explore_b68 x x1 s.2 with
        | none => rw [hz] at e1; cases e1
        | some z =>
          rw [hz] at e1
          cases e1
      · rw [if_neg c2] at e1
        cases hq1 : (d_X7_expand x x1 s.1 s.2) with
        | none => rw [hq1] at e1; cases e1
        | some q1 =>
          rw [hq1, Option.bind_some] at e1
          have dq1 := fx_X7_expand hI hq1
          cases e1
          exact dq1
  · unfold d_X7_explore_l41s d_X7_explore_l41b at e1
    by_cases c1 : (Int32.toInt (s.2.1 x 0)) ≤ (Int32.toInt s.1)
    · rw [if_pos c1] at e1
      cases hz : d_X7_explore_b68 x x1 s.2 with
      | none => rw [hz] at e1; cases e1
      | some z =>
        rw [hz] at e1
        cases e1
        exact fx_X7_explore_b68  hI hz
    · rw [if_neg c1] at e1
      by_cases c2 : ¬ (Int32.toInt (s.2.1 x 1)) = 0
      · rw [if_pos c2] at e1
        cases hz : d_X7_explore_b68 x x1 s.2 with
        | none => rw [hz] at e1; cases e1
        | some z =>
          rw [hz] at e1
          cases e1
          exact fx_X7_explore_b68  hI hz
      · rw [if_neg c2] at e1
        cases hq1 : (d_X7_expand x x1 s.1 s.2) with
        | none => rw [hq1] at e1; cases e1
        | some q1 =>
          rw [hq1, Option.bind_some] at e1
          have dq1 := fx_X7_expand hI hq1
          cases e1
theorem fx_X7_explore {m : dc_M} {x : Nat} {c0 : dc_M} {x1 : Nat} {e : dc_M} (hD : FC x c0 m) (h : d_X7_explore x x1 m = some e) : FC x c0 e := by
  unfold d_X7_explore at h
  cases hq1 : (d_J7_fill_53178 (x + 6) (0 : Int32) (dc_wi (dc_wi (dc_wi (dc_wi m x 0 (0 : Int32)) x 1 (0 : Int32)) x 2 (0 : Int32)) x 11 (-100 : Int32))) with
  | none => rw [hq1] at h; cases h
  | some q1 =>
    rw [hq1, Option.bind_some] at h
    have dq1 := fx_fill (fx_wi (fx_wi (fx_wi (fx_wi hD (by omega)) (by omega)) (by omega)) (by omega)) hq1
    cases hq2 : (d_X7_meet x (q1.1 x1 13) (0 : Int32) q1) with
    | none => rw [hq2] at h; cases h
    | some q2 =>
      rw [hq2, Option.bind_some] at h
      have dq2 := fx_X7_meet dq1 hq2
      exact fx_X7_explore_l41  dq2 h
