/-! ===== what some methods leave alone (written by a program) ===== -/
theorem fe_J7_fill_53178_l5 {m : dc_M} {a b : Nat} {c0 : dc_M} {x0 : Nat} {x1 : Int32} {x2 : Int32} {x3 : Int32} {e : dc_M} (hx : (a = 41 ∧ b = 52) ∨ (a = 52 ∧ b = 41) → ∀ k, fec a b x0 k) (hD : FEm a b c0 m) (h : d_J7_fill_53178_l5 x0 x1 x3 x2 m = some e) : FEm a b c0 e := by
  unfold d_J7_fill_53178_l5 at h
  refine dc_lp_inv (fun s => FEm a b c0 (s.2)) (fun e => FEm a b c0 e) (fun s s' hI e1 => ?_) (fun s e' hI e1 => ?_) hD h
  · unfold d_J7_fill_53178_l5s d_J7_fill_53178_l5b at e1
    by_cases c1 : (Int32.toInt x3) ≤ (Int32.toInt s.1)
    · rw [if_pos c1] at e1
      cases e1
    · rw [if_neg c1] at e1
      cases e1
      exact (fe_wi hI (fun q => by first | exact hx q _ | (unfold fec; omega)))
  · unfold d_J7_fill_53178_l5s d_J7_fill_53178_l5b at e1
    by_cases c1 : (Int32.toInt x3) ≤ (Int32.toInt s.1)
    · rw [if_pos c1] at e1
      cases e1
      exact hI
    · rw [if_neg c1] at e1
      cases e1
theorem fe_J7_fill_53178 {m : dc_M} {a b : Nat} {c0 : dc_M} {x0 : Nat} {x1 : Int32} {e : dc_M} (hx : (a = 41 ∧ b = 52) ∨ (a = 52 ∧ b = 41) → ∀ k, fec a b x0 k) (hD : FEm a b c0 m) (h : d_J7_fill_53178 x0 x1 m = some e) : FEm a b c0 e := by
  unfold d_J7_fill_53178 at h
  exact fe_J7_fill_53178_l5 hx hD h
theorem fe_X7_meet_b65 {m : dc_M} {a b : Nat} {c0 : dc_M} {x0 : Nat} {x1 : Int32} {x2 : Int32} {x3 : Int32} {e : (Int32 × dc_M)} (hx : x0 = 4) (hD : FEm a b c0 m) (h : d_X7_meet_b65 x0 x1 x2 x3 m = some e) : FEm a b c0 (e.2) := by
  unfold d_X7_meet_b65 at h
  by_cases c1 : (Int32.toInt (m.1 x0 0)) < 200
  · rw [if_pos c1] at h
    cases h
    exact (fe_wi (fe_wi (fe_wi (fe_wi hD (fun q => by unfold fec; omega)) (fun q => by unfold fec; omega)) (fun q => by unfold fec; omega)) (fun q => by first | exact hx q _ | (unfold fec; omega)))
  · rw [if_neg c1] at h
    cases h
    exact hD
theorem fe_X7_meet_l11 {m : dc_M} {a b : Nat} {c0 : dc_M} {x0 : Nat} {x1 : Int32} {x2 : Int32} {x3 : Int32} {x4 : Int32} {e : (Int32 × dc_M)} (hx : x0 = 4) (hD : FEm a b c0 m) (h : d_X7_meet_l11 x0 x1 x2 x3 x4 m = some e) : FEm a b c0 (e.2) := by
  unfold d_X7_meet_l11 at h
  refine dc_lp_inv (fun s => FEm a b c0 m) (fun e => FEm a b c0 (e.2)) (fun s s' hI e1 => ?_) (fun s e' hI e1 => ?_) hD h
  · exact hI
  · unfold d_X7_meet_l11s d_X7_meet_l11b at e1
    by_cases c1 : 512 ≤ (Int32.toInt s.2)
    · rw [if_pos c1] at e1
      cases hz : d_X7_meet_b65 x0 x1 x2 s.1 m with
      | none => rw [hz] at e1; cases e1
      | some z =>
        rw [hz] at e1
        cases e1
        exact fe_X7_meet_b65 hx hI hz
    · rw [if_neg c1] at e1
      by_cases c2 : 0 ≤ (Int32.toInt ((m.1 (x0 + 6) (Int32.toNatClampNeg s.1)) - (1 : Int32)))
      · rw [if_pos c2] at e1
        by_cases c3 : ¬ (Int32.toInt (m.1 (x0 + 1) (Int32.toNatClampNeg ((m.1 (x0 + 6) (Int32.toNatClampNeg s.1)) - (1 : Int32))))) = (Int32.toInt x1)
        · rw [if_pos c3] at e1
          cases e1
        · rw [if_neg c3] at e1
          cases e1
          exact hI
      · rw [if_neg c2] at e1
        cases hz : d_X7_meet_b65 x0 x1 x2 s.1 m with
        | none => rw [hz] at e1; cases e1
        | some z =>
          rw [hz] at e1
          cases e1
          exact fe_X7_meet_b65 hx hI hz
theorem fe_X7_meet {m : dc_M} {a b : Nat} {c0 : dc_M} {x0 : Nat} {x1 : Int32} {x2 : Int32} {e : (Int32 × dc_M)} (hx : x0 = 4) (hD : FEm a b c0 m) (h : d_X7_meet x0 x1 x2 m = some e) : FEm a b c0 (e.2) := by
  unfold d_X7_meet at h
  exact fe_X7_meet_l11 hx hD h
theorem fe_X7_expand_b136 {m : dc_M} {a b : Nat} {c0 : dc_M} {x0 : Nat} {x2 : Int32} {x4 : Int32} {x5 : Int32} {e : dc_M} (hx : x0 = 4) (hD : FEm a b c0 m) (h : d_X7_expand_b136 x0 x2 x4 x5 m = some e) : FEm a b c0 e := by
  unfold d_X7_expand_b136 at h
  cases h
  exact (fe_wi (fe_wi (fe_wi hD (fun q => by unfold fec; omega)) (fun q => by unfold fec; omega)) (fun q => by first | exact hx q _ | (unfold fec; omega)))
theorem fe_X7_expand_l16 {m : dc_M} {a b : Nat} {c0 : dc_M} {x0 : Nat} {x1 : Nat} {x2 : Int32} {x3 : Int32} {x4 : Int32} {x5 : Int32} {x6 : Int32} {e : dc_M} (hx : x0 = 4) (hD : FEm a b c0 m) (h : d_X7_expand_l16 x0 x1 x2 x3 x4 x5 x6 m = some e) : FEm a b c0 e := by
  unfold d_X7_expand_l16 at h
  refine dc_lp_inv (fun s => FEm a b c0 (s.2.2.2)) (fun e => FEm a b c0 e) (fun s s' hI e1 => ?_) (fun s e' hI e1 => ?_) hD h
  · unfold d_X7_expand_l16s d_X7_expand_l16b at e1
    by_cases c1 : (Int32.toInt (s.2.2.2.1 x1 1)) ≤ (Int32.toInt s.2.2.1)
    · rw [if_pos c1] at e1
      cases hz : d_X7_expand_b136 x0 x2 s.1 s.2.1 s.2.2.2 with
      | none => rw [hz] at e1; cases e1
      | some z =>
        rw [hz] at e1
        cases e1
    · rw [if_neg c1] at e1
      by_cases c2 : ¬ (Int32.toInt (d_X3_isReady x1 x3 s.2.2.1 s.2.2.2)) = 0
      · rw [if_pos c2] at e1
        by_cases c3 : (Int32.toInt (d_X3_isUnsafe x1 x3 s.2.2.1 s.2.2.2)) = 0
        · rw [if_pos c3] at e1
          cases hq1 : (d_X7_meet x0 (d_X3_after x1 x3 s.2.2.1 s.2.2.2) ((s.2.2.2.1 (x0 + 3) (Int32.toNatClampNeg x2)) ^^^ ((1 : Int32) <<< ((s.2.2.2.1 (x1 + 3) (Int32.toNatClampNeg s.2.2.1)) &&& 31))) s.2.2.2) with
          | none => rw [hq1] at e1; cases e1
          | some q1 =>
            rw [hq1, Option.bind_some] at e1
            have dq1 := fe_X7_meet hx hI hq1
            by_cases c4 : 0 ≤ (Int32.toInt q1.1)
            · rw [if_pos c4] at e1
              cases e1
              exact (fe_wi dq1 (fun q => by unfold fec; omega))
            · rw [if_neg c4] at e1
              cases e1
        · rw [if_neg c3] at e1
          cases e1
      · rw [if_neg c2] at e1
        cases e1
        exact hI
  · unfold d_X7_expand_l16s d_X7_expand_l16b at e1
    by_cases c1 : (Int32.toInt (s.2.2.2.1 x1 1)) ≤ (Int32.toInt s.2.2.1)
    · rw [if_pos c1] at e1
      cases hz : d_X7_expand_b136 x0 x2 s.1 s.2.1 s.2.2.2 with
      | none => rw [hz] at e1; cases e1
      | some z =>
        rw [hz] at e1
        cases e1
        exact fe_X7_expand_b136 hx hI hz
    · rw [if_neg c1] at e1
      by_cases c2 : ¬ (Int32.toInt (d_X3_isReady x1 x3 s.2.2.1 s.2.2.2)) = 0
      · rw [if_pos c2] at e1
        by_cases c3 : (Int32.toInt (d_X3_isUnsafe x1 x3 s.2.2.1 s.2.2.2)) = 0
        · rw [if_pos c3] at e1
          cases hq1 : (d_X7_meet x0 (d_X3_after x1 x3 s.2.2.1 s.2.2.2) ((s.2.2.2.1 (x0 + 3) (Int32.toNatClampNeg x2)) ^^^ ((1 : Int32) <<< ((s.2.2.2.1 (x1 + 3) (Int32.toNatClampNeg s.2.2.1)) &&& 31))) s.2.2.2) with
          | none => rw [hq1] at e1; cases e1
          | some q1 =>
            rw [hq1, Option.bind_some] at e1
            have dq1 := fe_X7_meet hx hI hq1
            by_cases c4 : 0 ≤ (Int32.toInt q1.1)
            · rw [if_pos c4] at e1
              cases e1
            · rw [if_neg c4] at e1
              cases e1
              exact (fe_wi dq1 (fun q => by first | exact hx q _ | (unfold fec; omega)))
        · rw [if_neg c3] at e1
          cases e1
          exact (fe_wi hI (fun q => by first | exact hx q _ | (unfold fec; omega)))
      · rw [if_neg c2] at e1
        cases e1
theorem fe_X7_expand {m : dc_M} {a b : Nat} {c0 : dc_M} {x0 : Nat} {x1 : Nat} {x2 : Int32} {e : dc_M} (hx : x0 = 4) (hD : FEm a b c0 m) (h : d_X7_expand x0 x1 x2 m = some e) : FEm a b c0 e := by
  unfold d_X7_expand at h
  exact fe_X7_expand_l16 hx hD h
theorem fe_X7_tellLevels_l163 {m : dc_M} {a b : Nat} {c0 : dc_M} {x0 : Nat} {x3 : Int32} {x4 : Int32} {e : (Int32 × dc_M)} (hx : x0 = 4) (hD : FEm a b c0 m) (h : d_X7_tellLevels_l163 x0 x3 x4 m = some e) : FEm a b c0 (e.2) := by
  unfold d_X7_tellLevels_l163 at h
  refine dc_lp_inv (fun s => FEm a b c0 (s.2)) (fun e => FEm a b c0 (e.2)) (fun s s' hI e1 => ?_) (fun s e' hI e1 => ?_) hD h
  · unfold d_X7_tellLevels_l163s d_X7_tellLevels_l163b at e1
    by_cases c1 : (Int32.toInt (s.2.1 x0 0)) ≤ (Int32.toInt s.1)
    · rw [if_pos c1] at e1
      cases e1
    · rw [if_neg c1] at e1
      cases e1
      exact (fe_wi hI (fun q => by unfold fec; omega))
  · unfold d_X7_tellLevels_l163s d_X7_tellLevels_l163b at e1
    by_cases c1 : (Int32.toInt (s.2.1 x0 0)) ≤ (Int32.toInt s.1)
    · rw [if_pos c1] at e1
      cases e1
      exact hI
    · rw [if_neg c1] at e1
      cases e1
theorem fe_X7_tellLevels_b107 {m : dc_M} {a b : Nat} {c0 : dc_M} {x0 : Nat} {x1 : Nat} {x2 : Int32} {x3 : Int32} {x4 : Int32} {x5 : Int32} {x6 : Int32} {s0 : Int32} {u : ((Int32 × Int32 × Int32) ⊕ ((Int32 × Int32 × Int32) ⊕ (Int32 × dc_M)))} (hx : x0 = 4) (hD : FEm a b c0 m) (h : d_X7_tellLevels_b107 x0 x1 x2 x3 x4 x5 x6 s0 m = some u) : (∀ s', u = .inl s' → FEm a b c0 m) ∧ (∀ s', u = Sum.inr (Sum.inl s') → FEm a b c0 m) ∧ (∀ e, u = Sum.inr (Sum.inr e) → FEm a b c0 (e.2)) := by
  unfold d_X7_tellLevels_b107 at h
  by_cases c1 : (Int32.toInt (x2 &&& x6)) = 0
  · rw [if_pos c1] at h
    cases h
    exact ⟨fun _ q => (by cases q; exact hD), fun _ q => (by cases q), fun _ q => (by cases q)⟩
  · rw [if_neg c1] at h
    by_cases c2 : (Int32.toInt (x3 &&& x6)) = (Int32.toInt (s0 ^^^ ((m.1 (x0 + 3) (Int32.toNatClampNeg x4)) &&& x6)))
    · rw [if_pos c2] at h
      cases h
      exact ⟨fun _ q => (by cases q; exact hD), fun _ q => (by cases q), fun _ q => (by cases q)⟩
    · rw [if_neg c2] at h
      cases h
      exact ⟨fun _ q => (by cases q), fun _ q => (by cases q), fun _ q => (by cases q; exact hD)⟩
theorem fe_X7_tellLevels_l19 {m : dc_M} {a b : Nat} {c0 : dc_M} {x0 : Nat} {x1 : Nat} {x2 : Int32} {x3 : Int32} {x4 : Int32} {x5 : Int32} {u : ((Int32 × Int32 × Int32) ⊕ (Int32 × dc_M))} (hx : x0 = 4) (hD : FEm a b c0 m) (h : d_X7_tellLevels_l19 x0 x1 x4 x2 x3 x5 m = some u) : (∀ s', u = .inl s' → FEm a b c0 m) ∧ (∀ e, u = .inr e → FEm a b c0 (e.2)) := by
  unfold d_X7_tellLevels_l19 at h
  refine dc_lp_inv (fun s => FEm a b c0 m) (fun u => (∀ s', u = .inl s' → FEm a b c0 m) ∧ (∀ e, u = .inr e → FEm a b c0 (e.2))) (fun s s' hI e1 => ?_) (fun s e' hI e1 => ?_) hD h
  · exact hI
  · unfold d_X7_tellLevels_l19s d_X7_tellLevels_l19b at e1
    by_cases c1 : (Int32.toInt (m.1 x1 1)) ≤ (Int32.toInt s.2.2)
    · rw [if_pos c1] at e1
      cases e1
      exact ⟨fun _ q => (by cases q; exact hI), fun _ q => (by cases q)⟩
    · rw [if_neg c1] at e1
      by_cases c2 : ¬ (Int32.toInt (((m.1 (x0 + 2) (Int32.toNatClampNeg x4)) >>> (s.2.2 &&& 31)) &&& (1 : Int32))) = 0
      · rw [if_pos c2] at e1
        by_cases c3 : (Int32.toInt ((m.1 (x0 + 3) (Int32.toNatClampNeg x4)) ^^^ ((1 : Int32) <<< ((m.1 (x1 + 3) (Int32.toNatClampNeg s.2.2)) &&& 31)))) = (Int32.toInt (m.1 (x0 + 3) (Int32.toNatClampNeg (m.1 (x0 + 5) (Int32.toNatClampNeg ((x4 * (16 : Int32)) + s.2.2))))))
        · rw [if_pos c3] at e1
          by_cases c4 : ¬ (Int32.toInt (m.1 (x1 + 4) (Int32.toNatClampNeg s.2.2))) = 1
          · rw [if_pos c4] at e1
            exact ⟨fun _ q => (by cases q; exact (fe_X7_tellLevels_b107 hx hI e1).2.1 _ rfl), fun _ q => (by cases q; exact (fe_X7_tellLevels_b107 hx hI e1).2.2 _ rfl)⟩
          · rw [if_neg c4] at e1
            exact ⟨fun _ q => (by cases q; exact (fe_X7_tellLevels_b107 hx hI e1).2.1 _ rfl), fun _ q => (by cases q; exact (fe_X7_tellLevels_b107 hx hI e1).2.2 _ rfl)⟩
        · rw [if_neg c3] at e1
          cases e1
          exact ⟨fun _ q => (by cases q), fun _ q => (by cases q; exact hI)⟩
      · rw [if_neg c2] at e1
        cases e1
theorem fe_X7_tellLevels_l7 {m : dc_M} {a b : Nat} {c0 : dc_M} {x0 : Nat} {x1 : Nat} {x2 : Int32} {x3 : Int32} {x4 : Int32} {e : (Int32 × dc_M)} (hx : x0 = 4) (hD : FEm a b c0 m) (h : d_X7_tellLevels_l7 x0 x1 x2 x3 x4 m = some e) : FEm a b c0 (e.2) := by
  unfold d_X7_tellLevels_l7 at h
  refine dc_lp_inv (fun s => FEm a b c0 m) (fun e => FEm a b c0 (e.2)) (fun s s' hI e1 => ?_) (fun s e' hI e1 => ?_) hD h
  · exact hI
  · unfold d_X7_tellLevels_l7s d_X7_tellLevels_l7b at e1
    by_cases c1 : (Int32.toInt (m.1 x0 0)) ≤ (Int32.toInt s.2.2)
    · rw [if_pos c1] at e1
      cases hz : d_X7_tellLevels_l163 x0 s.2.1 (0 : Int32) m with
      | none => rw [hz] at e1; cases e1
      | some z =>
        rw [hz] at e1
        cases e1
        exact fe_X7_tellLevels_l163 hx hI hz
    · rw [if_neg c1] at e1
      exact (fe_X7_tellLevels_l19 hx hI e1).2 _ rfl
theorem fe_X7_tellLevels {m : dc_M} {a b : Nat} {c0 : dc_M} {x0 : Nat} {x1 : Nat} {e : (Int32 × dc_M)} (hx : x0 = 4) (hD : FEm a b c0 m) (h : d_X7_tellLevels x0 x1 m = some e) : FEm a b c0 (e.2) := by
  unfold d_X7_tellLevels at h
  exact fe_X7_tellLevels_l7 hx hD h
theorem fe_X7_explore_b80 {m : dc_M} {a b : Nat} {c0 : dc_M} {x0 : Nat} {x1 : Nat} {e : dc_M} (hx : x0 = 4) (hD : FEm a b c0 m) (h : d_X7_explore_b80 x0 x1 m = some e) : FEm a b c0 e := by
  unfold d_X7_explore_b80 at h
  by_cases c1 : ¬ (Int32.toInt (m.1 x0 1)) = 0
  · rw [if_pos c1] at h
    cases h
    exact (fe_wi hD (fun q => by first | exact hx q _ | (unfold fec; omega)))
  · rw [if_neg c1] at h
    cases hq1 : (d_X7_tellLevels x0 x1 m) with
    | none => rw [hq1] at h; cases h
    | some q1 =>
      rw [hq1, Option.bind_some] at h
      have dq1 := fe_X7_tellLevels hx hD hq1
      by_cases c2 : (Int32.toInt q1.1) = 0
      · rw [if_pos c2] at h
        cases h
        exact (fe_wi dq1 (fun q => by first | exact hx q _ | (unfold fec; omega)))
      · rw [if_neg c2] at h
        cases h
        exact (fe_wi dq1 (fun q => by first | exact hx q _ | (unfold fec; omega)))
theorem fe_X7_explore_b68 {m : dc_M} {a b : Nat} {c0 : dc_M} {x0 : Nat} {x1 : Nat} {e : dc_M} (hx : x0 = 4) (hD : FEm a b c0 m) (h : d_X7_explore_b68 x0 x1 m = some e) : FEm a b c0 e := by
  unfold d_X7_explore_b68 at h
  by_cases c1 : (Int32.toInt (m.1 x0 1)) = 0
  · rw [if_pos c1] at h
    exact fe_X7_explore_b80 hx hD h
  · rw [if_neg c1] at h
    exact fe_X7_explore_b80 hx (fe_wi hD (fun q => by first | exact hx q _ | (unfold fec; omega))) h
theorem fe_X7_explore_l41 {m : dc_M} {a b : Nat} {c0 : dc_M} {x0 : Nat} {x1 : Nat} {x2 : Int32} {e : dc_M} (hx : x0 = 4) (hD : FEm a b c0 m) (h : d_X7_explore_l41 x0 x1 x2 m = some e) : FEm a b c0 e := by
  unfold d_X7_explore_l41 at h
  refine dc_lp_inv (fun s => FEm a b c0 (s.2)) (fun e => FEm a b c0 e) (fun s s' hI e1 => ?_) (fun s e' hI e1 => ?_) hD h
  · unfold d_X7_explore_l41s d_X7_explore_l41b at e1
    by_cases c1 : (Int32.toInt (s.2.1 x0 0)) ≤ (Int32.toInt s.1)
    · rw [if_pos c1] at e1
      cases hz : d_X7_explore_b68 x0 x1 s.2 with
      | none => rw [hz] at e1; cases e1
      | some z =>
        rw [hz] at e1
        cases e1
    · rw [if_neg c1] at e1
      by_cases c2 : ¬ (Int32.toInt (s.2.1 x0 1)) = 0
      · rw [if_pos c2] at e1
        cases hz : d_X7_explore_b68 x0 x1 s.2 with
        | none => rw [hz] at e1; cases e1
        | some z =>
          rw [hz] at e1
          cases e1
      · rw [if_neg c2] at e1
        cases hq1 : (d_X7_expand x0 x1 s.1 s.2) with
        | none => rw [hq1] at e1; cases e1
        | some q1 =>
          rw [hq1, Option.bind_some] at e1
          have dq1 := fe_X7_expand hx hI hq1
          cases e1
          exact dq1
  · unfold d_X7_explore_l41s d_X7_explore_l41b at e1
    by_cases c1 : (Int32.toInt (s.2.1 x0 0)) ≤ (Int32.toInt s.1)
    · rw [if_pos c1] at e1
      cases hz : d_X7_explore_b68 x0 x1 s.2 with
      | none => rw [hz] at e1; cases e1
      | some z =>
        rw [hz] at e1
        cases e1
        exact fe_X7_explore_b68 hx hI hz
    · rw [if_neg c1] at e1
      by_cases c2 : ¬ (Int32.toInt (s.2.1 x0 1)) = 0
      · rw [if_pos c2] at e1
        cases hz : d_X7_explore_b68 x0 x1 s.2 with
        | none => rw [hz] at e1; cases e1
        | some z =>
          rw [hz] at e1
          cases e1
          exact fe_X7_explore_b68 hx hI hz
      · rw [if_neg c2] at e1
        cases hq1 : (d_X7_expand x0 x1 s.1 s.2) with
        | none => rw [hq1] at e1; cases e1
        | some q1 =>
          rw [hq1, Option.bind_some] at e1
          have dq1 := fe_X7_expand hx hI hq1
          cases e1
theorem fl_X7_tellLevels_l163 {m : dc_M} {a b : Nat} {c0 : dc_M} {x0 : Nat} {x3 : Int32} {x4 : Int32} {e : (Int32 × dc_M)} (hx : x0 = 4) (hD : FLm a b c0 m) (h : d_X7_tellLevels_l163 x0 x3 x4 m = some e) : FLm a b c0 (e.2) := by
  unfold d_X7_tellLevels_l163 at h
  refine dc_lp_inv (fun s => FLm a b c0 (s.2)) (fun e => FLm a b c0 (e.2)) (fun s s' hI e1 => ?_) (fun s e' hI e1 => ?_) hD h
  · unfold d_X7_tellLevels_l163s d_X7_tellLevels_l163b at e1
    by_cases c1 : (Int32.toInt (s.2.1 x0 0)) ≤ (Int32.toInt s.1)
    · rw [if_pos c1] at e1
      cases e1
    · rw [if_neg c1] at e1
      cases e1
      exact (fl_wi hI (fun q => by unfold flc; omega))
  · unfold d_X7_tellLevels_l163s d_X7_tellLevels_l163b at e1
    by_cases c1 : (Int32.toInt (s.2.1 x0 0)) ≤ (Int32.toInt s.1)
    · rw [if_pos c1] at e1
      cases e1
      exact hI
    · rw [if_neg c1] at e1
      cases e1
theorem fl_X7_tellLevels_b107 {m : dc_M} {a b : Nat} {c0 : dc_M} {x0 : Nat} {x1 : Nat} {x2 : Int32} {x3 : Int32} {x4 : Int32} {x5 : Int32} {x6 : Int32} {s0 : Int32} {u : ((Int32 × Int32 × Int32) ⊕ ((Int32 × Int32 × Int32) ⊕ (Int32 × dc_M)))} (hx : x0 = 4) (hD : FLm a b c0 m) (h : d_X7_tellLevels_b107 x0 x1 x2 x3 x4 x5 x6 s0 m = some u) : (∀ s', u = .inl s' → FLm a b c0 m) ∧ (∀ s', u = Sum.inr (Sum.inl s') → FLm a b c0 m) ∧ (∀ e, u = Sum.inr (Sum.inr e) → FLm a b c0 (e.2)) := by
  unfold d_X7_tellLevels_b107 at h
  by_cases c1 : (Int32.toInt (x2 &&& x6)) = 0
  · rw [if_pos c1] at h
    cases h
    exact ⟨fun _ q => (by cases q; exact hD), fun _ q => (by cases q), fun _ q => (by cases q)⟩
  · rw [if_neg c1] at h
    by_cases c2 : (Int32.toInt (x3 &&& x6)) = (Int32.toInt (s0 ^^^ ((m.1 (x0 + 3) (Int32.toNatClampNeg x4)) &&& x6)))
    · rw [if_pos c2] at h
      cases h
      exact ⟨fun _ q => (by cases q; exact hD), fun _ q => (by cases q), fun _ q => (by cases q)⟩
    · rw [if_neg c2] at h
      cases h
      exact ⟨fun _ q => (by cases q), fun _ q => (by cases q), fun _ q => (by cases q; exact hD)⟩
theorem fl_X7_tellLevels_l19 {m : dc_M} {a b : Nat} {c0 : dc_M} {x0 : Nat} {x1 : Nat} {x2 : Int32} {x3 : Int32} {x4 : Int32} {x5 : Int32} {u : ((Int32 × Int32 × Int32) ⊕ (Int32 × dc_M))} (hx : x0 = 4) (hD : FLm a b c0 m) (h : d_X7_tellLevels_l19 x0 x1 x4 x2 x3 x5 m = some u) : (∀ s', u = .inl s' → FLm a b c0 m) ∧ (∀ e, u = .inr e → FLm a b c0 (e.2)) := by
  unfold d_X7_tellLevels_l19 at h
  refine dc_lp_inv (fun s => FLm a b c0 m) (fun u => (∀ s', u = .inl s' → FLm a b c0 m) ∧ (∀ e, u = .inr e → FLm a b c0 (e.2))) (fun s s' hI e1 => ?_) (fun s e' hI e1 => ?_) hD h
  · exact hI
  · unfold d_X7_tellLevels_l19s d_X7_tellLevels_l19b at e1
    by_cases c1 : (Int32.toInt (m.1 x1 1)) ≤ (Int32.toInt s.2.2)
    · rw [if_pos c1] at e1
      cases e1
      exact ⟨fun _ q => (by cases q; exact hI), fun _ q => (by cases q)⟩
    · rw [if_neg c1] at e1
      by_cases c2 : ¬ (Int32.toInt (((m.1 (x0 + 2) (Int32.toNatClampNeg x4)) >>> (s.2.2 &&& 31)) &&& (1 : Int32))) = 0
      · rw [if_pos c2] at e1
        by_cases c3 : (Int32.toInt ((m.1 (x0 + 3) (Int32.toNatClampNeg x4)) ^^^ ((1 : Int32) <<< ((m.1 (x1 + 3) (Int32.toNatClampNeg s.2.2)) &&& 31)))) = (Int32.toInt (m.1 (x0 + 3) (Int32.toNatClampNeg (m.1 (x0 + 5) (Int32.toNatClampNeg ((x4 * (16 : Int32)) + s.2.2))))))
        · rw [if_pos c3] at e1
          by_cases c4 : ¬ (Int32.toInt (m.1 (x1 + 4) (Int32.toNatClampNeg s.2.2))) = 1
          · rw [if_pos c4] at e1
            exact ⟨fun _ q => (by cases q; exact (fl_X7_tellLevels_b107 hx hI e1).2.1 _ rfl), fun _ q => (by cases q; exact (fl_X7_tellLevels_b107 hx hI e1).2.2 _ rfl)⟩
          · rw [if_neg c4] at e1
            exact ⟨fun _ q => (by cases q; exact (fl_X7_tellLevels_b107 hx hI e1).2.1 _ rfl), fun _ q => (by cases q; exact (fl_X7_tellLevels_b107 hx hI e1).2.2 _ rfl)⟩
        · rw [if_neg c3] at e1
          cases e1
          exact ⟨fun _ q => (by cases q), fun _ q => (by cases q; exact hI)⟩
      · rw [if_neg c2] at e1
        cases e1
theorem fl_X7_tellLevels_l7 {m : dc_M} {a b : Nat} {c0 : dc_M} {x0 : Nat} {x1 : Nat} {x2 : Int32} {x3 : Int32} {x4 : Int32} {e : (Int32 × dc_M)} (hx : x0 = 4) (hD : FLm a b c0 m) (h : d_X7_tellLevels_l7 x0 x1 x2 x3 x4 m = some e) : FLm a b c0 (e.2) := by
  unfold d_X7_tellLevels_l7 at h
  refine dc_lp_inv (fun s => FLm a b c0 m) (fun e => FLm a b c0 (e.2)) (fun s s' hI e1 => ?_) (fun s e' hI e1 => ?_) hD h
  · exact hI
  · unfold d_X7_tellLevels_l7s d_X7_tellLevels_l7b at e1
    by_cases c1 : (Int32.toInt (m.1 x0 0)) ≤ (Int32.toInt s.2.2)
    · rw [if_pos c1] at e1
      cases hz : d_X7_tellLevels_l163 x0 s.2.1 (0 : Int32) m with
      | none => rw [hz] at e1; cases e1
      | some z =>
        rw [hz] at e1
        cases e1
        exact fl_X7_tellLevels_l163 hx hI hz
    · rw [if_neg c1] at e1
      exact (fl_X7_tellLevels_l19 hx hI e1).2 _ rfl
theorem fl_X7_tellLevels {m : dc_M} {a b : Nat} {c0 : dc_M} {x0 : Nat} {x1 : Nat} {e : (Int32 × dc_M)} (hx : x0 = 4) (hD : FLm a b c0 m) (h : d_X7_tellLevels x0 x1 m = some e) : FLm a b c0 (e.2) := by
  unfold d_X7_tellLevels at h
  exact fl_X7_tellLevels_l7 hx hD h
theorem fh_J7_fill_53178_l5 {m : dc_M} {a b : Nat} {c0 : dc_M} {x0 : Nat} {x1 : Int32} {x2 : Int32} {x3 : Int32} {e : dc_M} (hx : (a = 41 ∧ b = 52) ∨ (a = 52 ∧ b = 41) → ∀ k, fhc a b x0 k) (hD : FHm a b c0 m) (h : d_J7_fill_53178_l5 x0 x1 x3 x2 m = some e) : FHm a b c0 e := by
  unfold d_J7_fill_53178_l5 at h
  refine dc_lp_inv (fun s => FHm a b c0 (s.2)) (fun e => FHm a b c0 e) (fun s s' hI e1 => ?_) (fun s e' hI e1 => ?_) hD h
  · unfold d_J7_fill_53178_l5s d_J7_fill_53178_l5b at e1
    by_cases c1 : (Int32.toInt x3) ≤ (Int32.toInt s.1)
    · rw [if_pos c1] at e1
      cases e1
    · rw [if_neg c1] at e1
      cases e1
      exact (fh_wi hI (fun q => by first | exact hx q _ | (unfold fhc; omega)))
  · unfold d_J7_fill_53178_l5s d_J7_fill_53178_l5b at e1
    by_cases c1 : (Int32.toInt x3) ≤ (Int32.toInt s.1)
    · rw [if_pos c1] at e1
      cases e1
      exact hI
    · rw [if_neg c1] at e1
      cases e1
theorem fh_J7_fill_53178 {m : dc_M} {a b : Nat} {c0 : dc_M} {x0 : Nat} {x1 : Int32} {e : dc_M} (hx : (a = 41 ∧ b = 52) ∨ (a = 52 ∧ b = 41) → ∀ k, fhc a b x0 k) (hD : FHm a b c0 m) (h : d_J7_fill_53178 x0 x1 m = some e) : FHm a b c0 e := by
  unfold d_J7_fill_53178 at h
  exact fh_J7_fill_53178_l5 hx hD h
theorem fh_X7_findHome_l43 {m : dc_M} {a b : Nat} {c0 : dc_M} {x0 : Nat} {x1 : Int32} {x2 : Int32} {x3 : Int32} {x4 : Int32} {u : ((Int32 × Int32 × Int32 × dc_M) ⊕ (Int32 × dc_M))} (hx : x0 = 4) (hD : FHm a b c0 m) (h : d_X7_findHome_l43 x0 x2 x3 x1 x4 m = some u) : (∀ s', u = .inl s' → FHm a b c0 (s'.2.2.2)) ∧ (∀ e, u = .inr e → FHm a b c0 (e.2)) := by
  unfold d_X7_findHome_l43 at h
  refine dc_lp_inv (fun s => FHm a b c0 (s.2.2)) (fun u => (∀ s', u = .inl s' → FHm a b c0 (s'.2.2.2)) ∧ (∀ e, u = .inr e → FHm a b c0 (e.2))) (fun s s' hI e1 => ?_) (fun s e' hI e1 => ?_) hD h
  · obtain ⟨sa, sb, sm⟩ := s
    have hI : FHm a b c0 sm := hI
    have e1 : d_X7_findHome_l43b x0 x2 x3 sa sb sm = some (.inl s') := e1
    unfold d_X7_findHome_l43b at e1
    by_cases c1 : (Int32.toInt sb) ≤ 0
    · rw [if_pos c1] at e1
      exact (oi_rl e1).elim
    · rw [if_neg c1] at e1
      by_cases c2 : ¬ (Int32.toInt (sm.1 (x0 + 7) (Int32.toNatClampNeg sb))) = 0
      · rw [if_pos c2] at e1
        exact oi_l (fun s : Int32 × Int32 × dc_M => FHm a b c0 s.2.2) e1 hI
      · rw [if_neg c2] at e1
        cases hq1 : (d_X7_leadsHome x0 sb sm) with
        | none => rw [hq1] at e1; cases e1
        | some q1 =>
          rw [hq1, Option.bind_some] at e1
          by_cases c3 : (Int32.toInt q1) = 0
          · rw [if_pos c3] at e1
            exact oi_l (fun s : Int32 × Int32 × dc_M => FHm a b c0 s.2.2) e1 hI
          · rw [if_neg c3] at e1
            exact oi_l (fun s : Int32 × Int32 × dc_M => FHm a b c0 s.2.2) e1 (fh_wi hI (fun q => by unfold fhc; omega))
  · have e1 : d_X7_findHome_l43b x0 x2 x3 s.1 s.2.1 s.2.2 = some (.inr e') := e1
    unfold d_X7_findHome_l43b at e1
    by_cases c1 : (Int32.toInt s.2.1) ≤ 0
    · rw [if_pos c1] at e1
      exact oi_r (fun u : (Int32 × Int32 × Int32 × dc_M) ⊕ (Int32 × dc_M) => (∀ s', u = .inl s' → FHm a b c0 (s'.2.2.2)) ∧ (∀ e, u = .inr e → FHm a b c0 (e.2))) e1 ⟨fun s' q => (by rw [← Sum.inl.inj q]; exact hI), fun _ q => (by cases q)⟩
    · rw [if_neg c1] at e1
      by_cases c2 : ¬ (Int32.toInt (s.2.2.1 (x0 + 7) (Int32.toNatClampNeg s.2.1))) = 0
      · rw [if_pos c2] at e1
        exact (oi_lr e1).elim
      · rw [if_neg c2] at e1
        cases hq1 : (d_X7_leadsHome x0 s.2.1 s.2.2) with
        | none => rw [hq1] at e1; cases e1
        | some q1 =>
          rw [hq1, Option.bind_some] at e1
          by_cases c3 : (Int32.toInt q1) = 0
          · rw [if_pos c3] at e1
            exact (oi_lr e1).elim
          · rw [if_neg c3] at e1
            exact (oi_lr e1).elim
theorem fh_X7_findHome_l21 {m : dc_M} {a b : Nat} {c0 : dc_M} {x0 : Nat} {x1 : Int32} {x2 : Int32} {x3 : Int32} {e : (Int32 × dc_M)} (hx : x0 = 4) (hD : FHm a b c0 m) (h : d_X7_findHome_l21 x0 x1 x2 x3 m = some e) : FHm a b c0 (e.2) := by
  unfold d_X7_findHome_l21 at h
  refine dc_lp_inv (fun s => FHm a b c0 (s.2.2.2)) (fun e => FHm a b c0 (e.2)) (fun s s' hI e1 => ?_) (fun s e' hI e1 => ?_) hD h
  · unfold d_X7_findHome_l21s d_X7_findHome_l21b at e1
    by_cases c1 : 200 ≤ (Int32.toInt s.2.2.1)
    · rw [if_pos c1] at e1
      cases e1
    · rw [if_neg c1] at e1
      by_cases c2 : (Int32.toInt s.1) ≤ (Int32.toInt s.2.1)
      · rw [if_pos c2] at e1
        cases e1
      · rw [if_neg c2] at e1
        exact (fh_X7_findHome_l43 hx hI e1).1 _ rfl
  · unfold d_X7_findHome_l21s d_X7_findHome_l21b at e1
    by_cases c1 : 200 ≤ (Int32.toInt s.2.2.1)
    · rw [if_pos c1] at e1
      cases e1
      exact hI
    · rw [if_neg c1] at e1
      by_cases c2 : (Int32.toInt s.1) ≤ (Int32.toInt s.2.1)
      · rw [if_pos c2] at e1
        cases e1
        exact hI
      · rw [if_neg c2] at e1
        exact (fh_X7_findHome_l43 hx hI e1).2 _ rfl
theorem fh_X7_findHome {m : dc_M} {a b : Nat} {c0 : dc_M} {x0 : Nat} {e : (Int32 × dc_M)} (hx : x0 = 4) (hD : FHm a b c0 m) (h : d_X7_findHome x0 m = some e) : FHm a b c0 (e.2) := by
  unfold d_X7_findHome at h
  cases hq1 : (d_J7_fill_53178 (x0 + 7) (0 : Int32) m) with
  | none => rw [hq1] at h; cases h
  | some q1 =>
    rw [hq1, Option.bind_some] at h
    have dq1 := fh_J7_fill_53178 (fun q k => by unfold fhc; omega) hD hq1
    exact fh_X7_findHome_l21 hx (fh_wi dq1 (fun q => by unfold fhc; omega)) h
