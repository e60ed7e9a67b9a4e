/-! ===== reading a text leaves references as they are ===== -/
theorem rr_wi {R : (Nat → Nat → Int64) × (Nat → Nat → Nat) × (Nat → Nat × Nat)} {m : dc_M} {a k : Nat} {v : Int32} (h : m.2 = R) (_ : True) : (dc_wi m a k v).2 = R := h
theorem rr_X4_refuse {m : dc_M} {R : (Nat → Nat → Int64) × (Nat → Nat → Nat) × (Nat → Nat × Nat)} {x1 : Int32} {x2 : Int32} (hD : (m).2 = R) : ((d_X4_refuse 2 x1 x2 m)).2 = R := by
  unfold d_X4_refuse
  by_cases c1 : ¬ (Int32.toInt ((dc_wi m 2 5 (4 : Int32)).1 2 2)) = 0
  · rw [if_pos c1]
    exact (rr_wi hD trivial)
  · rw [if_neg c1]
    exact (rr_wi (rr_wi (rr_wi hD trivial) trivial) trivial)
theorem rr_X4_take_l109 {m : dc_M} {R : (Nat → Nat → Int64) × (Nat → Nat → Nat) × (Nat → Nat × Nat)}  {e : dc_M} (hD : (m).2 = R) (h : d_X4_take_l109 2 m = some e) : (e).2 = R := by
  unfold d_X4_take_l109 at h
  refine dc_lp_inv (fun s => (s).2 = R) (fun e => (e).2 = R) (fun s s' hI e1 => ?_) (fun s e' hI e1 => ?_) hD h
  · unfold d_X4_take_l109s d_X4_take_l109b at e1
    by_cases c1 : (Int32.toInt (s.1 2 1)) ≤ (Int32.toInt (s.1 2 4))
    · rw [if_pos c1] at e1
      cases e1
    · rw [if_neg c1] at e1
      by_cases c2 : (Int32.toInt (d_X4_isSmallLetter (s.1 (2 + 1) (Int32.toNatClampNeg (s.1 2 4))) s)) = 0
      · rw [if_pos c2] at e1
        cases e1
      · rw [if_neg c2] at e1
        cases e1
        exact (rr_wi hI trivial)
  · unfold d_X4_take_l109s d_X4_take_l109b at e1
    by_cases c1 : (Int32.toInt (s.1 2 1)) ≤ (Int32.toInt (s.1 2 4))
    · rw [if_pos c1] at e1
      cases e1
      exact hI
    · rw [if_neg c1] at e1
      by_cases c2 : (Int32.toInt (d_X4_isSmallLetter (s.1 (2 + 1) (Int32.toNatClampNeg (s.1 2 4))) s)) = 0
      · rw [if_pos c2] at e1
        cases e1
        exact hI
      · rw [if_neg c2] at e1
        cases e1
theorem rr_X4_take_b46 {m : dc_M} {R : (Nat → Nat → Int64) × (Nat → Nat → Nat) × (Nat → Nat × Nat)}  {e : dc_M} (hD : (m).2 = R) (h : d_X4_take_b46 2 m = some e) : (e).2 = R := by
  unfold d_X4_take_b46 at h
  by_cases c1 : (Int32.toInt ((dc_wi m 2 6 (m.1 2 4)).1 2 4)) < (Int32.toInt ((dc_wi m 2 6 (m.1 2 4)).1 2 1))
  · rw [if_pos c1] at h
    by_cases c2 : (Int32.toInt (d_X4_isSmallLetter ((dc_wi (dc_wi (dc_wi m 2 6 (m.1 2 4)) 2 7 ((dc_wi m 2 6 (m.1 2 4)).1 (2 + 1) (Int32.toNatClampNeg ((dc_wi m 2 6 (m.1 2 4)).1 2 4)))) 2 4 (((dc_wi (dc_wi m 2 6 (m.1 2 4)) 2 7 ((dc_wi m 2 6 (m.1 2 4)).1 (2 + 1) (Int32.toNatClampNeg ((dc_wi m 2 6 (m.1 2 4)).1 2 4)))).1 2 4) + (1 : Int32))).1 2 7) (dc_wi (dc_wi (dc_wi m 2 6 (m.1 2 4)) 2 7 ((dc_wi m 2 6 (m.1 2 4)).1 (2 + 1) (Int32.toNatClampNeg ((dc_wi m 2 6 (m.1 2 4)).1 2 4)))) 2 4 (((dc_wi (dc_wi m 2 6 (m.1 2 4)) 2 7 ((dc_wi m 2 6 (m.1 2 4)).1 (2 + 1) (Int32.toNatClampNeg ((dc_wi m 2 6 (m.1 2 4)).1 2 4)))).1 2 4) + (1 : Int32))))) = 0
    · rw [if_pos c2] at h
      by_cases c3 : (Int32.toInt (d_X4_isFigure ((dc_wi (dc_wi (dc_wi m 2 6 (m.1 2 4)) 2 7 ((dc_wi m 2 6 (m.1 2 4)).1 (2 + 1) (Int32.toNatClampNeg ((dc_wi m 2 6 (m.1 2 4)).1 2 4)))) 2 4 (((dc_wi (dc_wi m 2 6 (m.1 2 4)) 2 7 ((dc_wi m 2 6 (m.1 2 4)).1 (2 + 1) (Int32.toNatClampNeg ((dc_wi m 2 6 (m.1 2 4)).1 2 4)))).1 2 4) + (1 : Int32))).1 2 7) (dc_wi (dc_wi (dc_wi m 2 6 (m.1 2 4)) 2 7 ((dc_wi m 2 6 (m.1 2 4)).1 (2 + 1) (Int32.toNatClampNeg ((dc_wi m 2 6 (m.1 2 4)).1 2 4)))) 2 4 (((dc_wi (dc_wi m 2 6 (m.1 2 4)) 2 7 ((dc_wi m 2 6 (m.1 2 4)).1 (2 + 1) (Int32.toNatClampNeg ((dc_wi m 2 6 (m.1 2 4)).1 2 4)))).1 2 4) + (1 : Int32))))) = 0
      · rw [if_pos c3] at h
        by_cases c4 : (Int32.toInt ((dc_wi (dc_wi (dc_wi m 2 6 (m.1 2 4)) 2 7 ((dc_wi m 2 6 (m.1 2 4)).1 (2 + 1) (Int32.toNatClampNeg ((dc_wi m 2 6 (m.1 2 4)).1 2 4)))) 2 4 (((dc_wi (dc_wi m 2 6 (m.1 2 4)) 2 7 ((dc_wi m 2 6 (m.1 2 4)).1 (2 + 1) (Int32.toNatClampNeg ((dc_wi m 2 6 (m.1 2 4)).1 2 4)))).1 2 4) + (1 : Int32))).1 2 7)) = 43
        · rw [if_pos c4] at h
          cases h
          exact (rr_wi (rr_wi (rr_wi (rr_wi hD trivial) trivial) trivial) trivial)
        · rw [if_neg c4] at h
          by_cases c5 : (Int32.toInt ((dc_wi (dc_wi (dc_wi m 2 6 (m.1 2 4)) 2 7 ((dc_wi m 2 6 (m.1 2 4)).1 (2 + 1) (Int32.toNatClampNeg ((dc_wi m 2 6 (m.1 2 4)).1 2 4)))) 2 4 (((dc_wi (dc_wi m 2 6 (m.1 2 4)) 2 7 ((dc_wi m 2 6 (m.1 2 4)).1 (2 + 1) (Int32.toNatClampNeg ((dc_wi m 2 6 (m.1 2 4)).1 2 4)))).1 2 4) + (1 : Int32))).1 2 7)) = 45
          · rw [if_pos c5] at h
            cases h
            exact (rr_wi (rr_wi (rr_wi (rr_wi hD trivial) trivial) trivial) trivial)
          · rw [if_neg c5] at h
            by_cases c6 : (Int32.toInt ((dc_wi (dc_wi (dc_wi m 2 6 (m.1 2 4)) 2 7 ((dc_wi m 2 6 (m.1 2 4)).1 (2 + 1) (Int32.toNatClampNeg ((dc_wi m 2 6 (m.1 2 4)).1 2 4)))) 2 4 (((dc_wi (dc_wi m 2 6 (m.1 2 4)) 2 7 ((dc_wi m 2 6 (m.1 2 4)).1 (2 + 1) (Int32.toNatClampNeg ((dc_wi m 2 6 (m.1 2 4)).1 2 4)))).1 2 4) + (1 : Int32))).1 2 7)) = 47
            · rw [if_pos c6] at h
              cases h
              exact (rr_wi (rr_wi (rr_wi (rr_wi hD trivial) trivial) trivial) trivial)
            · rw [if_neg c6] at h
              by_cases c7 : (Int32.toInt ((dc_wi (dc_wi (dc_wi m 2 6 (m.1 2 4)) 2 7 ((dc_wi m 2 6 (m.1 2 4)).1 (2 + 1) (Int32.toNatClampNeg ((dc_wi m 2 6 (m.1 2 4)).1 2 4)))) 2 4 (((dc_wi (dc_wi m 2 6 (m.1 2 4)) 2 7 ((dc_wi m 2 6 (m.1 2 4)).1 (2 + 1) (Int32.toNatClampNeg ((dc_wi m 2 6 (m.1 2 4)).1 2 4)))).1 2 4) + (1 : Int32))).1 2 7)) = 62
              · rw [if_pos c7] at h
                cases h
                exact (rr_wi (rr_wi (rr_wi (rr_wi hD trivial) trivial) trivial) trivial)
              · rw [if_neg c7] at h
                by_cases c8 : ¬ (Int32.toInt ((dc_wi (dc_wi (dc_wi m 2 6 (m.1 2 4)) 2 7 ((dc_wi m 2 6 (m.1 2 4)).1 (2 + 1) (Int32.toNatClampNeg ((dc_wi m 2 6 (m.1 2 4)).1 2 4)))) 2 4 (((dc_wi (dc_wi m 2 6 (m.1 2 4)) 2 7 ((dc_wi m 2 6 (m.1 2 4)).1 (2 + 1) (Int32.toNatClampNeg ((dc_wi m 2 6 (m.1 2 4)).1 2 4)))).1 2 4) + (1 : Int32))).1 2 7)) = 59
                · rw [if_pos c8] at h
                  have dq1 : ((d_X4_refuse 2 (1 : Int32) ((dc_wi (dc_wi (dc_wi m 2 6 (m.1 2 4)) 2 7 ((dc_wi m 2 6 (m.1 2 4)).1 (2 + 1) (Int32.toNatClampNeg ((dc_wi m 2 6 (m.1 2 4)).1 2 4)))) 2 4 (((dc_wi (dc_wi m 2 6 (m.1 2 4)) 2 7 ((dc_wi m 2 6 (m.1 2 4)).1 (2 + 1) (Int32.toNatClampNeg ((dc_wi m 2 6 (m.1 2 4)).1 2 4)))).1 2 4) + (1 : Int32))).1 2 6) (dc_wi (dc_wi (dc_wi m 2 6 (m.1 2 4)) 2 7 ((dc_wi m 2 6 (m.1 2 4)).1 (2 + 1) (Int32.toNatClampNeg ((dc_wi m 2 6 (m.1 2 4)).1 2 4)))) 2 4 (((dc_wi (dc_wi m 2 6 (m.1 2 4)) 2 7 ((dc_wi m 2 6 (m.1 2 4)).1 (2 + 1) (Int32.toNatClampNeg ((dc_wi m 2 6 (m.1 2 4)).1 2 4)))).1 2 4) + (1 : Int32))))).2 = R := rr_X4_refuse (rr_wi (rr_wi (rr_wi hD trivial) trivial) trivial)
                  generalize (d_X4_refuse 2 (1 : Int32) ((dc_wi (dc_wi (dc_wi m 2 6 (m.1 2 4)) 2 7 ((dc_wi m 2 6 (m.1 2 4)).1 (2 + 1) (Int32.toNatClampNeg ((dc_wi m 2 6 (m.1 2 4)).1 2 4)))) 2 4 (((dc_wi (dc_wi m 2 6 (m.1 2 4)) 2 7 ((dc_wi m 2 6 (m.1 2 4)).1 (2 + 1) (Int32.toNatClampNeg ((dc_wi m 2 6 (m.1 2 4)).1 2 4)))).1 2 4) + (1 : Int32))).1 2 6) (dc_wi (dc_wi (dc_wi m 2 6 (m.1 2 4)) 2 7 ((dc_wi m 2 6 (m.1 2 4)).1 (2 + 1) (Int32.toNatClampNeg ((dc_wi m 2 6 (m.1 2 4)).1 2 4)))) 2 4 (((dc_wi (dc_wi m 2 6 (m.1 2 4)) 2 7 ((dc_wi m 2 6 (m.1 2 4)).1 (2 + 1) (Int32.toNatClampNeg ((dc_wi m 2 6 (m.1 2 4)).1 2 4)))).1 2 4) + (1 : Int32)))) = q1 at h dq1
                  rw [dc_let_eq] at h
                  cases h
                  exact dq1
                · rw [if_neg c8] at h
                  cases h
                  exact (rr_wi (rr_wi (rr_wi (rr_wi hD trivial) trivial) trivial) trivial)
      · rw [if_neg c3] at h
        by_cases c9 : (Int32.toInt ((dc_wi (dc_wi (dc_wi (dc_wi m 2 6 (m.1 2 4)) 2 7 ((dc_wi m 2 6 (m.1 2 4)).1 (2 + 1) (Int32.toNatClampNeg ((dc_wi m 2 6 (m.1 2 4)).1 2 4)))) 2 4 (((dc_wi (dc_wi m 2 6 (m.1 2 4)) 2 7 ((dc_wi m 2 6 (m.1 2 4)).1 (2 + 1) (Int32.toNatClampNeg ((dc_wi m 2 6 (m.1 2 4)).1 2 4)))).1 2 4) + (1 : Int32))) 2 5 (2 : Int32)).1 2 1)) ≤ (Int32.toInt ((dc_wi (dc_wi (dc_wi (dc_wi m 2 6 (m.1 2 4)) 2 7 ((dc_wi m 2 6 (m.1 2 4)).1 (2 + 1) (Int32.toNatClampNeg ((dc_wi m 2 6 (m.1 2 4)).1 2 4)))) 2 4 (((dc_wi (dc_wi m 2 6 (m.1 2 4)) 2 7 ((dc_wi m 2 6 (m.1 2 4)).1 (2 + 1) (Int32.toNatClampNeg ((dc_wi m 2 6 (m.1 2 4)).1 2 4)))).1 2 4) + (1 : Int32))) 2 5 (2 : Int32)).1 2 4))
        · rw [if_pos c9] at h
          cases h
          exact (rr_wi (rr_wi (rr_wi (rr_wi hD trivial) trivial) trivial) trivial)
        · rw [if_neg c9] at h
          by_cases c10 : (Int32.toInt (d_X4_isFigure ((dc_wi (dc_wi (dc_wi (dc_wi m 2 6 (m.1 2 4)) 2 7 ((dc_wi m 2 6 (m.1 2 4)).1 (2 + 1) (Int32.toNatClampNeg ((dc_wi m 2 6 (m.1 2 4)).1 2 4)))) 2 4 (((dc_wi (dc_wi m 2 6 (m.1 2 4)) 2 7 ((dc_wi m 2 6 (m.1 2 4)).1 (2 + 1) (Int32.toNatClampNeg ((dc_wi m 2 6 (m.1 2 4)).1 2 4)))).1 2 4) + (1 : Int32))) 2 5 (2 : Int32)).1 (2 + 1) (Int32.toNatClampNeg ((dc_wi (dc_wi (dc_wi (dc_wi m 2 6 (m.1 2 4)) 2 7 ((dc_wi m 2 6 (m.1 2 4)).1 (2 + 1) (Int32.toNatClampNeg ((dc_wi m 2 6 (m.1 2 4)).1 2 4)))) 2 4 (((dc_wi (dc_wi m 2 6 (m.1 2 4)) 2 7 ((dc_wi m 2 6 (m.1 2 4)).1 (2 + 1) (Int32.toNatClampNeg ((dc_wi m 2 6 (m.1 2 4)).1 2 4)))).1 2 4) + (1 : Int32))) 2 5 (2 : Int32)).1 2 4))) (dc_wi (dc_wi (dc_wi (dc_wi m 2 6 (m.1 2 4)) 2 7 ((dc_wi m 2 6 (m.1 2 4)).1 (2 + 1) (Int32.toNatClampNeg ((dc_wi m 2 6 (m.1 2 4)).1 2 4)))) 2 4 (((dc_wi (dc_wi m 2 6 (m.1 2 4)) 2 7 ((dc_wi m 2 6 (m.1 2 4)).1 (2 + 1) (Int32.toNatClampNeg ((dc_wi m 2 6 (m.1 2 4)).1 2 4)))).1 2 4) + (1 : Int32))) 2 5 (2 : Int32)))) = 0
          · rw [if_pos c10] at h
            cases h
            exact (rr_wi (rr_wi (rr_wi (rr_wi hD trivial) trivial) trivial) trivial)
          · rw [if_neg c10] at h
            have dq2 : ((d_X4_refuse 2 (1 : Int32) ((dc_wi (dc_wi (dc_wi (dc_wi m 2 6 (m.1 2 4)) 2 7 ((dc_wi m 2 6 (m.1 2 4)).1 (2 + 1) (Int32.toNatClampNeg ((dc_wi m 2 6 (m.1 2 4)).1 2 4)))) 2 4 (((dc_wi (dc_wi m 2 6 (m.1 2 4)) 2 7 ((dc_wi m 2 6 (m.1 2 4)).1 (2 + 1) (Int32.toNatClampNeg ((dc_wi m 2 6 (m.1 2 4)).1 2 4)))).1 2 4) + (1 : Int32))) 2 5 (2 : Int32)).1 2 6) (dc_wi (dc_wi (dc_wi (dc_wi m 2 6 (m.1 2 4)) 2 7 ((dc_wi m 2 6 (m.1 2 4)).1 (2 + 1) (Int32.toNatClampNeg ((dc_wi m 2 6 (m.1 2 4)).1 2 4)))) 2 4 (((dc_wi (dc_wi m 2 6 (m.1 2 4)) 2 7 ((dc_wi m 2 6 (m.1 2 4)).1 (2 + 1) (Int32.toNatClampNeg ((dc_wi m 2 6 (m.1 2 4)).1 2 4)))).1 2 4) + (1 : Int32))) 2 5 (2 : Int32)))).2 = R := rr_X4_refuse (rr_wi (rr_wi (rr_wi (rr_wi hD trivial) trivial) trivial) trivial)
            generalize (d_X4_refuse 2 (1 : Int32) ((dc_wi (dc_wi (dc_wi (dc_wi m 2 6 (m.1 2 4)) 2 7 ((dc_wi m 2 6 (m.1 2 4)).1 (2 + 1) (Int32.toNatClampNeg ((dc_wi m 2 6 (m.1 2 4)).1 2 4)))) 2 4 (((dc_wi (dc_wi m 2 6 (m.1 2 4)) 2 7 ((dc_wi m 2 6 (m.1 2 4)).1 (2 + 1) (Int32.toNatClampNeg ((dc_wi m 2 6 (m.1 2 4)).1 2 4)))).1 2 4) + (1 : Int32))) 2 5 (2 : Int32)).1 2 6) (dc_wi (dc_wi (dc_wi (dc_wi m 2 6 (m.1 2 4)) 2 7 ((dc_wi m 2 6 (m.1 2 4)).1 (2 + 1) (Int32.toNatClampNeg ((dc_wi m 2 6 (m.1 2 4)).1 2 4)))) 2 4 (((dc_wi (dc_wi m 2 6 (m.1 2 4)) 2 7 ((dc_wi m 2 6 (m.1 2 4)).1 (2 + 1) (Int32.toNatClampNeg ((dc_wi m 2 6 (m.1 2 4)).1 2 4)))).1 2 4) + (1 : Int32))) 2 5 (2 : Int32))) = q2 at h dq2
            rw [dc_let_eq] at h
            cases h
            exact dq2
    · rw [if_neg c2] at h
      exact rr_X4_take_l109  (rr_wi (rr_wi (rr_wi (rr_wi hD trivial) trivial) trivial) trivial) h
  · rw [if_neg c1] at h
    cases h
    exact (rr_wi (rr_wi hD trivial) trivial)
theorem rr_X4_take_l8 {m : dc_M} {R : (Nat → Nat → Int64) × (Nat → Nat → Nat) × (Nat → Nat × Nat)}  {e : dc_M} (hD : (m).2 = R) (h : d_X4_take_l8 2 m = some e) : (e).2 = R := by
  unfold d_X4_take_l8 at h
  refine dc_lp_inv (fun s => (s).2 = R) (fun e => (e).2 = R) (fun s s' hI e1 => ?_) (fun s e' hI e1 => ?_) hD h
  · unfold d_X4_take_l8s d_X4_take_l8b at e1
    by_cases c1 : (Int32.toInt (s.1 2 1)) ≤ (Int32.toInt (s.1 2 4))
    · rw [if_pos c1] at e1
      cases hz : d_X4_take_b46 2 s with
      | none => rw [hz] at e1; cases e1
      | some z =>
        rw [hz] at e1
        cases e1
    · rw [if_neg c1] at e1
      by_cases c2 : ¬ (Int32.toInt (s.1 (2 + 1) (Int32.toNatClampNeg (s.1 2 4)))) = 32
      · rw [if_pos c2] at e1
        cases hz : d_X4_take_b46 2 s with
        | none => rw [hz] at e1; cases e1
        | some z =>
          rw [hz] at e1
          cases e1
      · rw [if_neg c2] at e1
        cases e1
        exact (rr_wi hI trivial)
  · unfold d_X4_take_l8s d_X4_take_l8b at e1
    by_cases c1 : (Int32.toInt (s.1 2 1)) ≤ (Int32.toInt (s.1 2 4))
    · rw [if_pos c1] at e1
      cases hz : d_X4_take_b46 2 s with
      | none => rw [hz] at e1; cases e1
      | some z =>
        rw [hz] at e1
        cases e1
        exact rr_X4_take_b46  hI hz
    · rw [if_neg c1] at e1
      by_cases c2 : ¬ (Int32.toInt (s.1 (2 + 1) (Int32.toNatClampNeg (s.1 2 4)))) = 32
      · rw [if_pos c2] at e1
        cases hz : d_X4_take_b46 2 s with
        | none => rw [hz] at e1; cases e1
        | some z =>
          rw [hz] at e1
          cases e1
          exact rr_X4_take_b46  hI hz
      · rw [if_neg c2] at e1
        cases e1
theorem rr_X4_take {m : dc_M} {R : (Nat → Nat → Int64) × (Nat → Nat → Nat) × (Nat → Nat × Nat)}  {e : dc_M} (hD : (m).2 = R) (h : d_X4_take 2 m = some e) : (e).2 = R := by
  unfold d_X4_take at h
  by_cases c1 : (Int32.toInt (m.1 2 2)) = 0
  · rw [if_pos c1] at h
    exact rr_X4_take_l8  hD h
  · rw [if_neg c1] at h
    cases h
    exact hD
theorem rr_X3_addWire {m : dc_M} {R : (Nat → Nat → Int64) × (Nat → Nat → Nat) × (Nat → Nat × Nat)} {x0 : Nat} {x1 : Int32} {x2 : Int32} (hD : (m).2 = R) : ((d_X3_addWire x0 x1 x2 m).2).2 = R := by
  unfold d_X3_addWire
  by_cases c1 : (Int32.toInt (m.1 x0 0)) < 6
  · rw [if_pos c1]
    exact (rr_wi (rr_wi (rr_wi hD trivial) trivial) trivial)
  · rw [if_neg c1]
    exact hD
theorem rr_X3_addEvent {m : dc_M} {R : (Nat → Nat → Int64) × (Nat → Nat → Nat) × (Nat → Nat × Nat)} {x0 : Nat} {x1 : Int32} {x2 : Int32} {x3 : Int32} (hD : (m).2 = R) : ((d_X3_addEvent x0 x1 x2 x3 m).2).2 = R := by
  unfold d_X3_addEvent
  by_cases c1 : (Int32.toInt (m.1 x0 1)) < 16
  · rw [if_pos c1]
    exact (rr_wi (rr_wi (rr_wi (rr_wi (rr_wi (rr_wi (rr_wi hD trivial) trivial) trivial) trivial) trivial) trivial) trivial)
  · rw [if_neg c1]
    exact hD
theorem rr_X3_addPlace_b88 {m : dc_M} {R : (Nat → Nat → Int64) × (Nat → Nat → Nat) × (Nat → Nat × Nat)} {x0 : Nat} {x1 : Int32} {x2 : Int32} {x4 : Int32} {x5 : Int32} {s0 : Int32} {s1 : Int32} {s2 : Int32} {x : ((Int32 × dc_M) ⊕ dc_M)} (hD : (m).2 = R) (h : d_X3_addPlace_b88 x0 x1 x2 x4 x5 s0 s1 s2 (x0 + 7) m = some x) : (∀ s', x = .inl s' → (s'.2).2 = R) ∧ (∀ e, x = .inr e → (e).2 = R) := by
  unfold d_X3_addPlace_b88 at h
  by_cases c1 : (Int32.toInt ((x2 >>> (x5 &&& 31)) &&& (1 : Int32))) = 0
  · rw [if_pos c1] at h
    cases h
    exact ⟨fun _ q => by cases q; exact (rr_wi (rr_wi hD trivial) trivial), fun _ q => by cases q⟩
  · rw [if_neg c1] at h
    cases h
    exact ⟨fun _ q => by cases q; exact (rr_wi (rr_wi hD trivial) trivial), fun _ q => by cases q⟩
theorem rr_X3_addPlace_l56 {m : dc_M} {R : (Nat → Nat → Int64) × (Nat → Nat → Nat) × (Nat → Nat × Nat)} {x0 : Nat} {x1 : Int32} {x2 : Int32} {x4 : Int32} {x5 : Int32} {e : dc_M} (hD : (m).2 = R) (h : d_X3_addPlace_l56 x0 x1 x2 x4 x5 m = some e) : (e).2 = R := by
  unfold d_X3_addPlace_l56 at h
  refine dc_lp_inv (fun s => (s.2).2 = R) (fun e => (e).2 = R) (fun s s' hI e1 => ?_) (fun s e' hI e1 => ?_) hD h
  · unfold d_X3_addPlace_l56s d_X3_addPlace_l56b at e1
    by_cases c1 : (Int32.toInt (s.2.1 x0 1)) ≤ (Int32.toInt s.1)
    · rw [if_pos c1] at e1
      cases e1
    · rw [if_neg c1] at e1
      by_cases c2 : (Int32.toInt ((x1 >>> (s.1 &&& 31)) &&& (1 : Int32))) = 0
      · rw [if_pos c2] at e1
        exact (rr_X3_addPlace_b88  hI e1).1 _ rfl
      · rw [if_neg c2] at e1
        exact (rr_X3_addPlace_b88  hI e1).1 _ rfl
  · unfold d_X3_addPlace_l56s d_X3_addPlace_l56b at e1
    by_cases c1 : (Int32.toInt (s.2.1 x0 1)) ≤ (Int32.toInt s.1)
    · rw [if_pos c1] at e1
      cases e1
      exact (rr_wi hI trivial)
    · rw [if_neg c1] at e1
      by_cases c2 : (Int32.toInt ((x1 >>> (s.1 &&& 31)) &&& (1 : Int32))) = 0
      · rw [if_pos c2] at e1
        exact (rr_X3_addPlace_b88  hI e1).2 _ rfl
      · rw [if_neg c2] at e1
        exact (rr_X3_addPlace_b88  hI e1).2 _ rfl
theorem rr_X3_addPlace {m : dc_M} {R : (Nat → Nat → Int64) × (Nat → Nat → Nat) × (Nat → Nat × Nat)} {x0 : Nat} {x1 : Int32} {x2 : Int32} {x3 : Int32} {e : dc_M} (hD : (m).2 = R) (h : d_X3_addPlace x0 x1 x2 x3 m = some e) : (e).2 = R := by
  unfold d_X3_addPlace at h
  by_cases c1 : (Int32.toInt (m.1 x0 2)) < 20
  · rw [if_pos c1] at h
    exact rr_X3_addPlace_l56  (rr_wi (rr_wi (rr_wi hD trivial) trivial) trivial) h
  · rw [if_neg c1] at h
    cases h
    exact hD
theorem rr_X4_numberOf {m : dc_M} {R : (Nat → Nat → Int64) × (Nat → Nat → Nat) × (Nat → Nat × Nat)} {x1 : Int32} {x2 : Int32} {x3 : Int32} {e : (Int32 × dc_M)} (hD : (m).2 = R) (h : d_X4_numberOf 2 x1 x2 x3 m = some e) : (e.2).2 = R := by
  unfold d_X4_numberOf at h
  cases hq1 : (d_X3_eventLike (m.2.2.1 2 8) x1 x2 x3 m) with
  | none => rw [hq1] at h; cases h
  | some q1 =>
    rw [hq1, Option.bind_some] at h
    by_cases c1 : (Int32.toInt q1) < 0
    · rw [if_pos c1] at h
      have dq2 : ((d_X3_addEvent (m.2.2.1 2 8) x1 x2 x3 m).2).2 = R := rr_X3_addEvent hD
      generalize (d_X3_addEvent (m.2.2.1 2 8) x1 x2 x3 m) = q2 at h dq2
      rw [dc_let_eq] at h
      cases h
      exact dq2
    · rw [if_neg c1] at h
      cases h
      exact hD
theorem rr_X4_readIndex {m : dc_M} {R : (Nat → Nat → Int64) × (Nat → Nat → Nat) × (Nat → Nat × Nat)}  {e : (Int32 × dc_M)} (hD : (m).2 = R) (h : d_X4_readIndex 2 m = some e) : (e.2).2 = R := by
  unfold d_X4_readIndex at h
  cases hq1 : (d_X4_take 2 m) with
  | none => rw [hq1] at h; cases h
  | some q1 =>
    rw [hq1, Option.bind_some] at h
    have dq1 := rr_X4_take hD hq1
    by_cases c1 : (Int32.toInt (q1.1 2 5)) = 2
    · rw [if_pos c1] at h
      cases hq2 : (d_X4_take 2 q1) with
      | none => rw [hq2] at h; cases h
      | some q2 =>
        rw [hq2, Option.bind_some] at h
        have dq2 := rr_X4_take dq1 hq2
        cases h
        exact dq2
    · rw [if_neg c1] at h
      have dq3 : ((d_X4_refuse 2 (2 : Int32) (q1.1 2 6) q1)).2 = R := rr_X4_refuse dq1
      generalize (d_X4_refuse 2 (2 : Int32) (q1.1 2 6) q1) = q3 at h dq3
      rw [dc_let_eq] at h
      cases h
      exact dq3
theorem rr_X4_takeSign {m : dc_M} {R : (Nat → Nat → Int64) × (Nat → Nat → Nat) × (Nat → Nat × Nat)} {x1 : Int32} {e : dc_M} (hD : (m).2 = R) (h : d_X4_takeSign 2 x1 m = some e) : (e).2 = R := by
  unfold d_X4_takeSign at h
  by_cases c1 : (Int32.toInt (d_X4_isSign 2 x1 m)) = 0
  · rw [if_pos c1] at h
    have dq1 : ((d_X4_refuse 2 (2 : Int32) (m.1 2 6) m)).2 = R := rr_X4_refuse hD
    generalize (d_X4_refuse 2 (2 : Int32) (m.1 2 6) m) = q1 at h dq1
    rw [dc_let_eq] at h
    cases h
    exact dq1
  · rw [if_neg c1] at h
    cases hq2 : (d_X4_take 2 m) with
    | none => rw [hq2] at h; cases h
    | some q2 =>
      rw [hq2, Option.bind_some] at h
      have dq2 := rr_X4_take hD hq2
      cases h
      exact dq2
theorem rr_X4_readEvent_b151 {m : dc_M} {R : (Nat → Nat → Int64) × (Nat → Nat → Nat) × (Nat → Nat × Nat)} {x1 : Int32} {x2 : Int32} {s0 : Int32} {e : (Int32 × dc_M)} (hD : (m).2 = R) (h : d_X4_readEvent_b151 2 x1 x2 s0 m = some e) : (e.2).2 = R := by
  unfold d_X4_readEvent_b151 at h
  by_cases c1 : 0 ≤ (Int32.toInt s0)
  · rw [if_pos c1] at h
    by_cases c2 : (Int32.toInt ((x1 >>> (s0 &&& 31)) &&& (1 : Int32))) = 0
    · rw [if_pos c2] at h
      cases h
      exact hD
    · rw [if_neg c2] at h
      have dq1 : ((d_X4_refuse 2 (5 : Int32) x2 m)).2 = R := rr_X4_refuse hD
      generalize (d_X4_refuse 2 (5 : Int32) x2 m) = q1 at h dq1
      rw [dc_let_eq] at h
      cases h
      exact dq1
  · rw [if_neg c1] at h
    have dq2 : ((d_X4_refuse 2 (6 : Int32) x2 m)).2 = R := rr_X4_refuse hD
    generalize (d_X4_refuse 2 (6 : Int32) x2 m) = q2 at h dq2
    rw [dc_let_eq] at h
    cases h
    exact dq2
theorem rr_X4_readEvent_b128 {m : dc_M} {R : (Nat → Nat → Int64) × (Nat → Nat → Nat) × (Nat → Nat × Nat)} {x1 : Int32} {x2 : Int32} {x3 : Int32} {x4 : Int32} {s0 : Int32} {e : (Int32 × dc_M)} (hD : (m).2 = R) (h : d_X4_readEvent_b128 2 x1 x2 x3 x4 s0 m = some e) : (e.2).2 = R := by
  unfold d_X4_readEvent_b128 at h
  by_cases c1 : ¬ (Int32.toInt (m.1 2 2)) = 0
  · rw [if_pos c1] at h
    exact rr_X4_readEvent_b151  hD h
  · rw [if_neg c1] at h
    cases hq1 : (d_X4_numberOf 2 x3 x4 s0 m) with
    | none => rw [hq1] at h; cases h
    | some q1 =>
      rw [hq1, Option.bind_some] at h
      have dq1 := rr_X4_numberOf hD hq1
      exact rr_X4_readEvent_b151  dq1 h
theorem rr_X4_readEvent_b105 {m : dc_M} {R : (Nat → Nat → Int64) × (Nat → Nat → Nat) × (Nat → Nat × Nat)} {x1 : Int32} {x2 : Int32} {x3 : Int32} {s0 : Int32} {e : (Int32 × dc_M)} (hD : (m).2 = R) (h : d_X4_readEvent_b105 2 x1 x2 x3 s0 m = some e) : (e.2).2 = R := by
  unfold d_X4_readEvent_b105 at h
  cases hq1 : (d_X4_take 2 m) with
  | none => rw [hq1] at h; cases h
  | some q1 =>
    rw [hq1, Option.bind_some] at h
    have dq1 := rr_X4_take hD hq1
    by_cases c1 : (Int32.toInt (d_X4_isSign 2 (47 : Int32) q1)) = 0
    · rw [if_pos c1] at h
      exact rr_X4_readEvent_b128  dq1 h
    · rw [if_neg c1] at h
      cases hq2 : (d_X4_readIndex 2 q1) with
      | none => rw [hq2] at h; cases h
      | some q2 =>
        rw [hq2, Option.bind_some] at h
        have dq2 := rr_X4_readIndex dq1 hq2
        exact rr_X4_readEvent_b128  dq2 h
theorem rr_X4_readEvent_b91 {m : dc_M} {R : (Nat → Nat → Int64) × (Nat → Nat → Nat) × (Nat → Nat × Nat)} {x1 : Int32} {x2 : Int32} {x3 : Int32} {e : (Int32 × dc_M)} (hD : (m).2 = R) (h : d_X4_readEvent_b91 2 x1 x2 x3 m = some e) : (e.2).2 = R := by
  unfold d_X4_readEvent_b91 at h
  by_cases c1 : ¬ (Int32.toInt (m.1 2 7)) = 43
  · rw [if_pos c1] at h
    exact rr_X4_readEvent_b105  hD h
  · rw [if_neg c1] at h
    exact rr_X4_readEvent_b105  hD h
theorem rr_X4_readEvent_b31 {m : dc_M} {R : (Nat → Nat → Int64) × (Nat → Nat → Nat) × (Nat → Nat × Nat)} {x1 : Int32} {x2 : Int32} {s0 : Int32} {e : (Int32 × dc_M)} (hD : (m).2 = R) (h : d_X4_readEvent_b31 2 x1 x2 s0 m = some e) : (e.2).2 = R := by
  unfold d_X4_readEvent_b31 at h
  by_cases c1 : 0 ≤ (Int32.toInt s0)
  · rw [if_pos c1] at h
    cases hq1 : (d_X4_take 2 m) with
    | none => rw [hq1] at h; cases h
    | some q1 =>
      rw [hq1, Option.bind_some] at h
      have dq1 := rr_X4_take hD hq1
      by_cases c2 : ¬ (Int32.toInt (d_X4_isSign 2 (43 : Int32) q1)) = 0
      · rw [if_pos c2] at h
        exact rr_X4_readEvent_b91  dq1 h
      · rw [if_neg c2] at h
        by_cases c3 : ¬ (Int32.toInt (d_X4_isSign 2 (45 : Int32) q1)) = 0
        · rw [if_pos c3] at h
          exact rr_X4_readEvent_b91  dq1 h
        · rw [if_neg c3] at h
          have dq2 : ((d_X4_refuse 2 (2 : Int32) (q1.1 2 6) q1)).2 = R := rr_X4_refuse dq1
          generalize (d_X4_refuse 2 (2 : Int32) (q1.1 2 6) q1) = q2 at h dq2
          rw [dc_let_eq] at h
          cases h
          exact dq2
  · rw [if_neg c1] at h
    by_cases c4 : (Int32.toInt (d_X4_isLetter 2 m)) = 0
    · rw [if_pos c4] at h
      have dq3 : ((d_X4_refuse 2 (2 : Int32) (m.1 2 6) m)).2 = R := rr_X4_refuse hD
      generalize (d_X4_refuse 2 (2 : Int32) (m.1 2 6) m) = q3 at h dq3
      rw [dc_let_eq] at h
      cases h
      exact dq3
    · rw [if_neg c4] at h
      have dq4 : ((d_X4_refuse 2 (4 : Int32) (m.1 2 6) m)).2 = R := rr_X4_refuse hD
      generalize (d_X4_refuse 2 (4 : Int32) (m.1 2 6) m) = q4 at h dq4
      rw [dc_let_eq] at h
      cases h
      exact dq4
theorem rr_X4_readEvent {m : dc_M} {R : (Nat → Nat → Int64) × (Nat → Nat → Nat) × (Nat → Nat × Nat)} {x1 : Int32} {e : (Int32 × dc_M)} (hD : (m).2 = R) (h : d_X4_readEvent 2 x1 m = some e) : (e.2).2 = R := by
  unfold d_X4_readEvent at h
  by_cases c1 : (Int32.toInt (d_X4_isLetter 2 m)) = 0
  · rw [if_pos c1] at h
    exact rr_X4_readEvent_b31  hD h
  · rw [if_neg c1] at h
    cases hq1 : (d_X3_wireCalled (m.2.2.1 2 8) ((m.1 2 7) - (97 : Int32)) m) with
    | none => rw [hq1] at h; cases h
    | some q1 =>
      rw [hq1, Option.bind_some] at h
      exact rr_X4_readEvent_b31  hD h
theorem rr_X4_readPlace_b99 {m : dc_M} {R : (Nat → Nat → Int64) × (Nat → Nat → Nat) × (Nat → Nat × Nat)} {x1 : Int32} {x2 : Int32} {e : dc_M} (hD : (m).2 = R) (h : d_X4_readPlace_b99 2 x1 x2 m = some e) : (e).2 = R := by
  unfold d_X4_readPlace_b99 at h
  by_cases c1 : (Int32.toInt (m.1 2 5)) = 2
  · rw [if_pos c1] at h
    by_cases c2 : (Int32.toInt ((m.1 2 7) - (48 : Int32))) ≤ 1
    · rw [if_pos c2] at h
      cases hq1 : (d_X4_take 2 m) with
      | none => rw [hq1] at h; cases h
      | some q1 =>
        rw [hq1, Option.bind_some] at h
        have dq1 := rr_X4_take hD hq1
        cases hq2 : (d_X4_takeSign 2 (59 : Int32) q1) with
        | none => rw [hq2] at h; cases h
        | some q2 =>
          rw [hq2, Option.bind_some] at h
          have dq2 := rr_X4_takeSign dq1 hq2
          cases hq3 : (d_X3_addPlace (q2.2.2.1 2 8) x1 x2 ((m.1 2 7) - (48 : Int32)) q2) with
          | none => rw [hq3] at h; cases h
          | some q3 =>
            rw [hq3, Option.bind_some] at h
            have dq3 := rr_X3_addPlace dq2 hq3
            cases h
            exact dq3
    · rw [if_neg c2] at h
      have dq4 : ((d_X4_refuse 2 (3 : Int32) (m.1 2 6) m)).2 = R := rr_X4_refuse hD
      generalize (d_X4_refuse 2 (3 : Int32) (m.1 2 6) m) = q4 at h dq4
      rw [dc_let_eq] at h
      cases h
      exact dq4
  · rw [if_neg c1] at h
    have dq5 : ((d_X4_refuse 2 (2 : Int32) (m.1 2 6) m)).2 = R := rr_X4_refuse hD
    generalize (d_X4_refuse 2 (2 : Int32) (m.1 2 6) m) = q5 at h dq5
    rw [dc_let_eq] at h
    cases h
    exact dq5
theorem rr_X4_readPlace_l72 {m : dc_M} {R : (Nat → Nat → Int64) × (Nat → Nat → Nat) × (Nat → Nat × Nat)} {x1 : Int32} {x2 : Int32} {x3 : Int32} {e : dc_M} (hD : (m).2 = R) (h : d_X4_readPlace_l72 2 x1 x2 x3 m = some e) : (e).2 = R := by
  unfold d_X4_readPlace_l72 at h
  refine dc_lp_inv (fun s => (s.2.2).2 = R) (fun e => (e).2 = R) (fun s s' hI e1 => ?_) (fun s e' hI e1 => ?_) hD h
  · unfold d_X4_readPlace_l72s d_X4_readPlace_l72b at e1
    by_cases c1 : 16 ≤ (Int32.toInt s.2.1)
    · rw [if_pos c1] at e1
      cases hz : d_X4_readPlace_b99 2 x1 s.1 s.2.2 with
      | none => rw [hz] at e1; cases e1
      | some z =>
        rw [hz] at e1
        cases e1
    · rw [if_neg c1] at e1
      by_cases c2 : (Int32.toInt (d_X4_isLetter 2 s.2.2)) = 0
      · rw [if_pos c2] at e1
        cases hz : d_X4_readPlace_b99 2 x1 s.1 s.2.2 with
        | none => rw [hz] at e1; cases e1
        | some z =>
          rw [hz] at e1
          cases e1
      · rw [if_neg c2] at e1
        cases hq1 : (d_X4_readEvent 2 s.1 s.2.2) with
        | none => rw [hq1] at e1; cases e1
        | some q1 =>
          rw [hq1, Option.bind_some] at e1
          have dq1 := rr_X4_readEvent hI hq1
          cases e1
          exact dq1
  · unfold d_X4_readPlace_l72s d_X4_readPlace_l72b at e1
    by_cases c1 : 16 ≤ (Int32.toInt s.2.1)
    · rw [if_pos c1] at e1
      cases hz : d_X4_readPlace_b99 2 x1 s.1 s.2.2 with
      | none => rw [hz] at e1; cases e1
      | some z =>
        rw [hz] at e1
        cases e1
        exact rr_X4_readPlace_b99  hI hz
    · rw [if_neg c1] at e1
      by_cases c2 : (Int32.toInt (d_X4_isLetter 2 s.2.2)) = 0
      · rw [if_pos c2] at e1
        cases hz : d_X4_readPlace_b99 2 x1 s.1 s.2.2 with
        | none => rw [hz] at e1; cases e1
        | some z =>
          rw [hz] at e1
          cases e1
          exact rr_X4_readPlace_b99  hI hz
      · rw [if_neg c2] at e1
        cases hq1 : (d_X4_readEvent 2 s.1 s.2.2) with
        | none => rw [hq1] at e1; cases e1
        | some q1 =>
          rw [hq1, Option.bind_some] at e1
          have dq1 := rr_X4_readEvent hI hq1
          cases e1
theorem rr_X4_readPlace_b58 {m : dc_M} {R : (Nat → Nat → Int64) × (Nat → Nat → Nat) × (Nat → Nat × Nat)} {x1 : Int32} {e : dc_M} (hD : (m).2 = R) (h : d_X4_readPlace_b58 2 x1 m = some e) : (e).2 = R := by
  unfold d_X4_readPlace_b58 at h
  cases hq1 : (d_X4_takeSign 2 (62 : Int32) m) with
  | none => rw [hq1] at h; cases h
  | some q1 =>
    rw [hq1, Option.bind_some] at h
    have dq1 := rr_X4_takeSign hD hq1
    cases hq2 : (d_X4_readEvent 2 (0 : Int32) q1) with
    | none => rw [hq2] at h; cases h
    | some q2 =>
      rw [hq2, Option.bind_some] at h
      have dq2 := rr_X4_readEvent dq1 hq2
      exact rr_X4_readPlace_l72  dq2 h
theorem rr_X4_readPlace_l31 {m : dc_M} {R : (Nat → Nat → Int64) × (Nat → Nat → Nat) × (Nat → Nat × Nat)} {x1 : Int32} {x2 : Int32} {e : dc_M} (hD : (m).2 = R) (h : d_X4_readPlace_l31 2 x1 x2 m = some e) : (e).2 = R := by
  unfold d_X4_readPlace_l31 at h
  refine dc_lp_inv (fun s => (s.2.2).2 = R) (fun e => (e).2 = R) (fun s s' hI e1 => ?_) (fun s e' hI e1 => ?_) hD h
  · unfold d_X4_readPlace_l31s d_X4_readPlace_l31b at e1
    by_cases c1 : 16 < (Int32.toInt s.2.1)
    · rw [if_pos c1] at e1
      cases hz : d_X4_readPlace_b58 2 s.1 s.2.2 with
      | none => rw [hz] at e1; cases e1
      | some z =>
        rw [hz] at e1
        cases e1
    · rw [if_neg c1] at e1
      by_cases c2 : (Int32.toInt (d_X4_isLetter 2 s.2.2)) = 0
      · rw [if_pos c2] at e1
        cases hz : d_X4_readPlace_b58 2 s.1 s.2.2 with
        | none => rw [hz] at e1; cases e1
        | some z =>
          rw [hz] at e1
          cases e1
      · rw [if_neg c2] at e1
        cases hq1 : (d_X4_readEvent 2 s.1 s.2.2) with
        | none => rw [hq1] at e1; cases e1
        | some q1 =>
          rw [hq1, Option.bind_some] at e1
          have dq1 := rr_X4_readEvent hI hq1
          cases e1
          exact dq1
  · unfold d_X4_readPlace_l31s d_X4_readPlace_l31b at e1
    by_cases c1 : 16 < (Int32.toInt s.2.1)
    · rw [if_pos c1] at e1
      cases hz : d_X4_readPlace_b58 2 s.1 s.2.2 with
      | none => rw [hz] at e1; cases e1
      | some z =>
        rw [hz] at e1
        cases e1
        exact rr_X4_readPlace_b58  hI hz
    · rw [if_neg c1] at e1
      by_cases c2 : (Int32.toInt (d_X4_isLetter 2 s.2.2)) = 0
      · rw [if_pos c2] at e1
        cases hz : d_X4_readPlace_b58 2 s.1 s.2.2 with
        | none => rw [hz] at e1; cases e1
        | some z =>
          rw [hz] at e1
          cases e1
          exact rr_X4_readPlace_b58  hI hz
      · rw [if_neg c2] at e1
        cases hq1 : (d_X4_readEvent 2 s.1 s.2.2) with
        | none => rw [hq1] at e1; cases e1
        | some q1 =>
          rw [hq1, Option.bind_some] at e1
          have dq1 := rr_X4_readEvent hI hq1
          cases e1
theorem rr_X4_readPlace {m : dc_M} {R : (Nat → Nat → Int64) × (Nat → Nat → Nat) × (Nat → Nat × Nat)}  {e : dc_M} (hD : (m).2 = R) (h : d_X4_readPlace 2 m = some e) : (e).2 = R := by
  unfold d_X4_readPlace at h
  by_cases c1 : (Int32.toInt (m.1 (m.2.2.1 2 8) 2)) < 20
  · rw [if_pos c1] at h
    cases hq1 : (d_X4_take 2 m) with
    | none => rw [hq1] at h; cases h
    | some q1 =>
      rw [hq1, Option.bind_some] at h
      have dq1 := rr_X4_take hD hq1
      exact rr_X4_readPlace_l31  dq1 h
  · rw [if_neg c1] at h
    have dq2 : ((d_X4_refuse 2 (6 : Int32) (m.1 2 6) m)).2 = R := rr_X4_refuse hD
    generalize (d_X4_refuse 2 (6 : Int32) (m.1 2 6) m) = q2 at h dq2
    rw [dc_let_eq] at h
    cases h
    exact dq2
theorem rr_X4_readWire {m : dc_M} {R : (Nat → Nat → Int64) × (Nat → Nat → Nat) × (Nat → Nat × Nat)} {x1 : Int32} {e : dc_M} (hD : (m).2 = R) (h : d_X4_readWire 2 x1 m = some e) : (e).2 = R := by
  unfold d_X4_readWire at h
  by_cases c1 : (Int32.toInt (m.1 (m.2.2.1 2 8) 0)) < 6
  · rw [if_pos c1] at h
    cases hq1 : (d_X4_take 2 m) with
    | none => rw [hq1] at h; cases h
    | some q1 =>
      rw [hq1, Option.bind_some] at h
      have dq1 := rr_X4_take hD hq1
      by_cases c2 : ¬ (Int32.toInt (d_X4_isLetter 2 q1)) = 0
      · rw [if_pos c2] at h
        cases hq2 : (d_X3_wireCalled (q1.2.2.1 2 8) ((q1.1 2 7) - (97 : Int32)) q1) with
        | none => rw [hq2] at h; cases h
        | some q2 =>
          rw [hq2, Option.bind_some] at h
          by_cases c3 : (Int32.toInt q2) < 0
          · rw [if_pos c3] at h
            have dq3 : ((d_X3_addWire (q1.2.2.1 2 8) ((q1.1 2 7) - (97 : Int32)) x1 q1).2).2 = R := rr_X3_addWire dq1
            generalize (d_X3_addWire (q1.2.2.1 2 8) ((q1.1 2 7) - (97 : Int32)) x1 q1) = q3 at h dq3
            rw [dc_let_eq] at h
            cases hq4 : (d_X4_take 2 q3.2) with
            | none => rw [hq4] at h; cases h
            | some q4 =>
              rw [hq4, Option.bind_some] at h
              have dq4 := rr_X4_take dq3 hq4
              cases hq5 : (d_X4_takeSign 2 (59 : Int32) q4) with
              | none => rw [hq5] at h; cases h
              | some q5 =>
                rw [hq5, Option.bind_some] at h
                have dq5 := rr_X4_takeSign dq4 hq5
                cases h
                exact dq5
          · rw [if_neg c3] at h
            have dq6 : ((d_X4_refuse 2 (4 : Int32) (q1.1 2 6) q1)).2 = R := rr_X4_refuse dq1
            generalize (d_X4_refuse 2 (4 : Int32) (q1.1 2 6) q1) = q6 at h dq6
            rw [dc_let_eq] at h
            cases h
            exact dq6
      · rw [if_neg c2] at h
        have dq7 : ((d_X4_refuse 2 (2 : Int32) (q1.1 2 6) q1)).2 = R := rr_X4_refuse dq1
        generalize (d_X4_refuse 2 (2 : Int32) (q1.1 2 6) q1) = q7 at h dq7
        rw [dc_let_eq] at h
        cases h
        exact dq7
  · rw [if_neg c1] at h
    have dq8 : ((d_X4_refuse 2 (6 : Int32) (m.1 2 6) m)).2 = R := rr_X4_refuse hD
    generalize (d_X4_refuse 2 (6 : Int32) (m.1 2 6) m) = q8 at h dq8
    rw [dc_let_eq] at h
    cases h
    exact dq8
theorem rr_X4_readLine {m : dc_M} {R : (Nat → Nat → Int64) × (Nat → Nat → Nat) × (Nat → Nat × Nat)}  {e : dc_M} (hD : (m).2 = R) (h : d_X4_readLine 2 m = some e) : (e).2 = R := by
  unfold d_X4_readLine at h
  cases hq1 : (d_X4_isWord 2 1 m) with
  | none => rw [hq1] at h; cases h
  | some q1 =>
    rw [hq1, Option.bind_some] at h
    by_cases c1 : (Int32.toInt q1) = 0
    · rw [if_pos c1] at h
      cases hq2 : (d_X4_isWord 2 2 m) with
      | none => rw [hq2] at h; cases h
      | some q2 =>
        rw [hq2, Option.bind_some] at h
        by_cases c2 : (Int32.toInt q2) = 0
        · rw [if_pos c2] at h
          cases hq3 : (d_X4_isWord 2 3 m) with
          | none => rw [hq3] at h; cases h
          | some q3 =>
            rw [hq3, Option.bind_some] at h
            by_cases c3 : (Int32.toInt q3) = 0
            · rw [if_pos c3] at h
              cases hq4 : (d_X4_isWord 2 4 m) with
              | none => rw [hq4] at h; cases h
              | some q4 =>
                rw [hq4, Option.bind_some] at h
                by_cases c4 : (Int32.toInt q4) = 0
                · rw [if_pos c4] at h
                  have dq5 : ((d_X4_refuse 2 (2 : Int32) (m.1 2 6) m)).2 = R := rr_X4_refuse hD
                  generalize (d_X4_refuse 2 (2 : Int32) (m.1 2 6) m) = q5 at h dq5
                  rw [dc_let_eq] at h
                  cases h
                  exact dq5
                · rw [if_neg c4] at h
                  cases hq6 : (d_X4_readPlace 2 m) with
                  | none => rw [hq6] at h; cases h
                  | some q6 =>
                    rw [hq6, Option.bind_some] at h
                    have dq6 := rr_X4_readPlace hD hq6
                    cases h
                    exact dq6
            · rw [if_neg c3] at h
              cases hq7 : (d_X4_readWire 2 (2 : Int32) m) with
              | none => rw [hq7] at h; cases h
              | some q7 =>
                rw [hq7, Option.bind_some] at h
                have dq7 := rr_X4_readWire hD hq7
                cases h
                exact dq7
        · rw [if_neg c2] at h
          cases hq8 : (d_X4_readWire 2 (1 : Int32) m) with
          | none => rw [hq8] at h; cases h
          | some q8 =>
            rw [hq8, Option.bind_some] at h
            have dq8 := rr_X4_readWire hD hq8
            cases h
            exact dq8
    · rw [if_neg c1] at h
      cases hq9 : (d_X4_readWire 2 (0 : Int32) m) with
      | none => rw [hq9] at h; cases h
      | some q9 =>
        rw [hq9, Option.bind_some] at h
        have dq9 := rr_X4_readWire hD hq9
        cases h
        exact dq9
theorem rr_l33 {m : dc_M} {R : (Nat → Nat → Int64) × (Nat → Nat → Nat) × (Nat → Nat × Nat)} {x : Int32} {e : Int32 × dc_M} (hD : m.2 = R) (h : d_X4_readInto_l33 2 x m = some e) : e.2.2 = R := by
  unfold d_X4_readInto_l33 at h
  refine dc_lp_inv (fun s : Int32 × dc_M => s.2.2 = R) (fun e : Int32 × dc_M => e.2.2 = R) (fun s s' hI hs => ?_) (fun s e hI hs => ?_) (show m.2 = R from hD) h
  · have hs : d_X4_readInto_l33b 2 s.1 s.2 = some (.inl s') := hs
    unfold d_X4_readInto_l33b at hs
    split at hs
    · cases hz : d_X4_readInto_b64 2 s.2 with
      | none => rw [hz] at hs; cases hs
      | some z => rw [hz] at hs; cases hs
    · split at hs
      · cases hz : d_X4_readInto_b64 2 s.2 with
        | none => rw [hz] at hs; cases hs
        | some z => rw [hz] at hs; cases hs
      · split at hs
        · cases hz : d_X4_readInto_b64 2 s.2 with
          | none => rw [hz] at hs; cases hs
          | some z => rw [hz] at hs; cases hs
        · cases hz : d_X4_readLine 2 s.2 with
          | none => rw [hz] at hs; cases hs
          | some z =>
            rw [hz, Option.bind_some] at hs
            cases hs
            exact rr_X4_readLine hI hz
  · have hs : d_X4_readInto_l33b 2 s.1 s.2 = some (.inr e) := hs
    have fin : ∀ z, d_X4_readInto_b64 2 s.2 = some z → z.2.2 = R := fun z hz => by
      unfold d_X4_readInto_b64 at hz
      split at hz <;> (cases hz; exact hI)
    unfold d_X4_readInto_l33b at hs
    split at hs
    · cases hz : d_X4_readInto_b64 2 s.2 with
      | none => rw [hz] at hs; cases hs
      | some z => rw [hz] at hs; cases hs; exact fin _ hz
    · split at hs
      · cases hz : d_X4_readInto_b64 2 s.2 with
        | none => rw [hz] at hs; cases hs
        | some z => rw [hz] at hs; cases hs; exact fin _ hz
      · split at hs
        · cases hz : d_X4_readInto_b64 2 s.2 with
          | none => rw [hz] at hs; cases hs
          | some z => rw [hz] at hs; cases hs; exact fin _ hz
        · cases hz : d_X4_readLine 2 s.2 with
          | none => rw [hz] at hs; cases hs
          | some z => rw [hz, Option.bind_some] at hs; cases hs
/-- the tried net is the reader's, nothing else -/
theorem rr_into {a : Nat} {c : dc_M} {z : Int32 × dc_M} (h : d_X4_readInto 2 a c = some z) : z.2.2 = (dc_wr c 2 8 a).2 := by
  unfold d_X4_readInto d_X4_readInto_b5 at h
  rw [dc_let_eq] at h
  cases ht : d_X4_take 2 (dc_wi (dc_wi (dc_wi (d_X3_clear ((dc_wr c 2 8 a).2.2.1 2 8) (dc_wr c 2 8 a)) 2 2 0) 2 3 0) 2 4 0) with
  | none => rw [ht] at h; cases h
  | some e =>
    rw [ht, Option.bind_some] at h
    have h0 : (dc_wi (dc_wi (dc_wi (d_X3_clear ((dc_wr c 2 8 a).2.2.1 2 8) (dc_wr c 2 8 a)) 2 2 0) 2 3 0) 2 4 0).2 = (dc_wr c 2 8 a).2 := rfl
    exact rr_l33 (rr_X4_take h0 ht) h
