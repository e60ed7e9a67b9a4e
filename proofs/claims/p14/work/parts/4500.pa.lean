/-! ===== reading a text leaves all other cells ===== -/
def fa (a : Nat) (c0 m : dc_M) : Prop := m.2.2.1 2 8 = a ∧ ∀ b k, b ≠ 2 → ¬ (a ≤ b ∧ b ≤ a + 10) → m.1 b k = c0.1 b k
theorem fa_wi {a : Nat} {c0 m : dc_M} {x k : Nat} {v : Int32} (h : fa a c0 m) (hs : x = 2 ∨ (a ≤ x ∧ x ≤ a + 10)) : fa a c0 (dc_wi m x k v) := ⟨h.1, fun b j h1 h2 => (wi_k (by omega)).trans (h.2 b j h1 h2)⟩
theorem fa_X4_refuse {m : dc_M} {a : Nat} {c0 : dc_M} {x1 : Int32} {x2 : Int32} (hD : fa a c0 m) : fa a c0 ((d_X4_refuse 2 x1 x2 m)) := by
  unfold d_X4_refuse
  by_cases c1 : ¬ (Int32.toInt ((dc_wi m 2 5 (4 : Int32)).1 2 2)) = 0
  · rw [if_pos c1]
    exact (fa_wi hD (by omega))
  · rw [if_neg c1]
    exact (fa_wi (fa_wi (fa_wi hD (by omega)) (by omega)) (by omega))
theorem fa_X4_take_l109 {m : dc_M} {a : Nat} {c0 : dc_M}  {e : dc_M} (hD : fa a c0 m) (h : d_X4_take_l109 2 m = some e) : fa a c0 e := by
  unfold d_X4_take_l109 at h
  refine dc_lp_inv (fun s => fa a c0 s) (fun e => fa a c0 e) (fun s s' hI e1 => ?_) (fun s e' hI e1 => ?_) hD h
  · unfold d_X4_take_l109s d_X4_take_l109b at e1
    by_cases c1 : (Int32.toInt (s.1 2 1)) ≤ (Int32.toInt (s.1 2 4))
    · rw [if_pos c1] at e1
      cases e1
    · rw [if_neg c1] at e1
      by_cases c2 : (Int32.toInt (d_X4_isSmallLetter (s.1 (2 + 1) (Int32.toNatClampNeg (s.1 2 4))) s)) = 0
      · rw [if_pos c2] at e1
        cases e1
      · rw [if_neg c2] at e1
        cases e1
        exact (fa_wi hI (by omega))
  · unfold d_X4_take_l109s d_X4_take_l109b at e1
    by_cases c1 : (Int32.toInt (s.1 2 1)) ≤ (Int32.toInt (s.1 2 4))
    · rw [if_pos c1] at e1
      cases e1
      exact hI
    · rw [if_neg c1] at e1
      by_cases c2 : (Int32.toInt (d_X4_isSmallLetter (s.1 (2 + 1) (Int32.toNatClampNeg (s.1 2 4))) s)) = 0
      · rw [if_pos c2] at e1
        cases e1
        exact hI
      · rw [if_neg c2] at e1
        cases e1
theorem fa_X4_take_b46 {m : dc_M} {a : Nat} {c0 : dc_M}  {e : dc_M} (hD : fa a c0 m) (h : d_X4_take_b46 2 m = some e) : fa a c0 e := by
  unfold d_X4_take_b46 at h
  by_cases c1 : (Int32.toInt ((dc_wi m 2 6 (m.1 2 4)).1 2 4)) < (Int32.toInt ((dc_wi m 2 6 (m.1 2 4)).1 2 1))
  · rw [if_pos c1] at h
    by_cases c2 : (Int32.toInt (d_X4_isSmallLetter ((dc_wi (dc_wi (dc_wi m 2 6 (m.1 2 4)) 2 7 ((dc_wi m 2 6 (m.1 2 4)).1 (2 + 1) (Int32.toNatClampNeg ((dc_wi m 2 6 (m.1 2 4)).1 2 4)))) 2 4 (((dc_wi (dc_wi m 2 6 (m.1 2 4)) 2 7 ((dc_wi m 2 6 (m.1 2 4)).1 (2 + 1) (Int32.toNatClampNeg ((dc_wi m 2 6 (m.1 2 4)).1 2 4)))).1 2 4) + (1 : Int32))).1 2 7) (dc_wi (dc_wi (dc_wi m 2 6 (m.1 2 4)) 2 7 ((dc_wi m 2 6 (m.1 2 4)).1 (2 + 1) (Int32.toNatClampNeg ((dc_wi m 2 6 (m.1 2 4)).1 2 4)))) 2 4 (((dc_wi (dc_wi m 2 6 (m.1 2 4)) 2 7 ((dc_wi m 2 6 (m.1 2 4)).1 (2 + 1) (Int32.toNatClampNeg ((dc_wi m 2 6 (m.1 2 4)).1 2 4)))).1 2 4) + (1 : Int32))))) = 0
    · rw [if_pos c2] at h
      by_cases c3 : (Int32.toInt (d_X4_isFigure ((dc_wi (dc_wi (dc_wi m 2 6 (m.1 2 4)) 2 7 ((dc_wi m 2 6 (m.1 2 4)).1 (2 + 1) (Int32.toNatClampNeg ((dc_wi m 2 6 (m.1 2 4)).1 2 4)))) 2 4 (((dc_wi (dc_wi m 2 6 (m.1 2 4)) 2 7 ((dc_wi m 2 6 (m.1 2 4)).1 (2 + 1) (Int32.toNatClampNeg ((dc_wi m 2 6 (m.1 2 4)).1 2 4)))).1 2 4) + (1 : Int32))).1 2 7) (dc_wi (dc_wi (dc_wi m 2 6 (m.1 2 4)) 2 7 ((dc_wi m 2 6 (m.1 2 4)).1 (2 + 1) (Int32.toNatClampNeg ((dc_wi m 2 6 (m.1 2 4)).1 2 4)))) 2 4 (((dc_wi (dc_wi m 2 6 (m.1 2 4)) 2 7 ((dc_wi m 2 6 (m.1 2 4)).1 (2 + 1) (Int32.toNatClampNeg ((dc_wi m 2 6 (m.1 2 4)).1 2 4)))).1 2 4) + (1 : Int32))))) = 0
      · rw [if_pos c3] at h
        by_cases c4 : (Int32.toInt ((dc_wi (dc_wi (dc_wi m 2 6 (m.1 2 4)) 2 7 ((dc_wi m 2 6 (m.1 2 4)).1 (2 + 1) (Int32.toNatClampNeg ((dc_wi m 2 6 (m.1 2 4)).1 2 4)))) 2 4 (((dc_wi (dc_wi m 2 6 (m.1 2 4)) 2 7 ((dc_wi m 2 6 (m.1 2 4)).1 (2 + 1) (Int32.toNatClampNeg ((dc_wi m 2 6 (m.1 2 4)).1 2 4)))).1 2 4) + (1 : Int32))).1 2 7)) = 43
        · rw [if_pos c4] at h
          cases h
          exact (fa_wi (fa_wi (fa_wi (fa_wi hD (by omega)) (by omega)) (by omega)) (by omega))
        · rw [if_neg c4] at h
          by_cases c5 : (Int32.toInt ((dc_wi (dc_wi (dc_wi m 2 6 (m.1 2 4)) 2 7 ((dc_wi m 2 6 (m.1 2 4)).1 (2 + 1) (Int32.toNatClampNeg ((dc_wi m 2 6 (m.1 2 4)).1 2 4)))) 2 4 (((dc_wi (dc_wi m 2 6 (m.1 2 4)) 2 7 ((dc_wi m 2 6 (m.1 2 4)).1 (2 + 1) (Int32.toNatClampNeg ((dc_wi m 2 6 (m.1 2 4)).1 2 4)))).1 2 4) + (1 : Int32))).1 2 7)) = 45
          · rw [if_pos c5] at h
            cases h
            exact (fa_wi (fa_wi (fa_wi (fa_wi hD (by omega)) (by omega)) (by omega)) (by omega))
          · rw [if_neg c5] at h
            by_cases c6 : (Int32.toInt ((dc_wi (dc_wi (dc_wi m 2 6 (m.1 2 4)) 2 7 ((dc_wi m 2 6 (m.1 2 4)).1 (2 + 1) (Int32.toNatClampNeg ((dc_wi m 2 6 (m.1 2 4)).1 2 4)))) 2 4 (((dc_wi (dc_wi m 2 6 (m.1 2 4)) 2 7 ((dc_wi m 2 6 (m.1 2 4)).1 (2 + 1) (Int32.toNatClampNeg ((dc_wi m 2 6 (m.1 2 4)).1 2 4)))).1 2 4) + (1 : Int32))).1 2 7)) = 47
            · rw [if_pos c6] at h
              cases h
              exact (fa_wi (fa_wi (fa_wi (fa_wi hD (by omega)) (by omega)) (by omega)) (by omega))
            · rw [if_neg c6] at h
              by_cases c7 : (Int32.toInt ((dc_wi (dc_wi (dc_wi m 2 6 (m.1 2 4)) 2 7 ((dc_wi m 2 6 (m.1 2 4)).1 (2 + 1) (Int32.toNatClampNeg ((dc_wi m 2 6 (m.1 2 4)).1 2 4)))) 2 4 (((dc_wi (dc_wi m 2 6 (m.1 2 4)) 2 7 ((dc_wi m 2 6 (m.1 2 4)).1 (2 + 1) (Int32.toNatClampNeg ((dc_wi m 2 6 (m.1 2 4)).1 2 4)))).1 2 4) + (1 : Int32))).1 2 7)) = 62
              · rw [if_pos c7] at h
                cases h
                exact (fa_wi (fa_wi (fa_wi (fa_wi hD (by omega)) (by omega)) (by omega)) (by omega))
              · rw [if_neg c7] at h
                by_cases c8 : ¬ (Int32.toInt ((dc_wi (dc_wi (dc_wi m 2 6 (m.1 2 4)) 2 7 ((dc_wi m 2 6 (m.1 2 4)).1 (2 + 1) (Int32.toNatClampNeg ((dc_wi m 2 6 (m.1 2 4)).1 2 4)))) 2 4 (((dc_wi (dc_wi m 2 6 (m.1 2 4)) 2 7 ((dc_wi m 2 6 (m.1 2 4)).1 (2 + 1) (Int32.toNatClampNeg ((dc_wi m 2 6 (m.1 2 4)).1 2 4)))).1 2 4) + (1 : Int32))).1 2 7)) = 59
                · rw [if_pos c8] at h
                  have dq1 : fa a c0 ((d_X4_refuse 2 (1 : Int32) ((dc_wi (dc_wi (dc_wi m 2 6 (m.1 2 4)) 2 7 ((dc_wi m 2 6 (m.1 2 4)).1 (2 + 1) (Int32.toNatClampNeg ((dc_wi m 2 6 (m.1 2 4)).1 2 4)))) 2 4 (((dc_wi (dc_wi m 2 6 (m.1 2 4)) 2 7 ((dc_wi m 2 6 (m.1 2 4)).1 (2 + 1) (Int32.toNatClampNeg ((dc_wi m 2 6 (m.1 2 4)).1 2 4)))).1 2 4) + (1 : Int32))).1 2 6) (dc_wi (dc_wi (dc_wi m 2 6 (m.1 2 4)) 2 7 ((dc_wi m 2 6 (m.1 2 4)).1 (2 + 1) (Int32.toNatClampNeg ((dc_wi m 2 6 (m.1 2 4)).1 2 4)))) 2 4 (((dc_wi (dc_wi m 2 6 (m.1 2 4)) 2 7 ((dc_wi m 2 6 (m.1 2 4)).1 (2 + 1) (Int32.toNatClampNeg ((dc_wi m 2 6 (m.1 2 4)).1 2 4)))).1 2 4) + (1 : Int32))))) := fa_X4_refuse (fa_wi (fa_wi (fa_wi hD (by omega)) (by omega)) (by omega))
                  generalize (d_X4_refuse 2 (1 : Int32) ((dc_wi (dc_wi (dc_wi m 2 6 (m.1 2 4)) 2 7 ((dc_wi m 2 6 (m.1 2 4)).1 (2 + 1) (Int32.toNatClampNeg ((dc_wi m 2 6 (m.1 2 4)).1 2 4)))) 2 4 (((dc_wi (dc_wi m 2 6 (m.1 2 4)) 2 7 ((dc_wi m 2 6 (m.1 2 4)).1 (2 + 1) (Int32.toNatClampNeg ((dc_wi m 2 6 (m.1 2 4)).1 2 4)))).1 2 4) + (1 : Int32))).1 2 6) (dc_wi (dc_wi (dc_wi m 2 6 (m.1 2 4)) 2 7 ((dc_wi m 2 6 (m.1 2 4)).1 (2 + 1) (Int32.toNatClampNeg ((dc_wi m 2 6 (m.1 2 4)).1 2 4)))) 2 4 (((dc_wi (dc_wi m 2 6 (m.1 2 4)) 2 7 ((dc_wi m 2 6 (m.1 2 4)).1 (2 + 1) (Int32.toNatClampNeg ((dc_wi m 2 6 (m.1 2 4)).1 2 4)))).1 2 4) + (1 : Int32)))) = q1 at h dq1
                  rw [dc_let_eq] at h
                  cases h
                  exact dq1
                · rw [if_neg c8] at h
                  cases h
                  exact (fa_wi (fa_wi (fa_wi (fa_wi hD (by omega)) (by omega)) (by omega)) (by omega))
      · rw [if_neg c3] at h
        by_cases c9 : (Int32.toInt ((dc_wi (dc_wi (dc_wi (dc_wi m 2 6 (m.1 2 4)) 2 7 ((dc_wi m 2 6 (m.1 2 4)).1 (2 + 1) (Int32.toNatClampNeg ((dc_wi m 2 6 (m.1 2 4)).1 2 4)))) 2 4 (((dc_wi (dc_wi m 2 6 (m.1 2 4)) 2 7 ((dc_wi m 2 6 (m.1 2 4)).1 (2 + 1) (Int32.toNatClampNeg ((dc_wi m 2 6 (m.1 2 4)).1 2 4)))).1 2 4) + (1 : Int32))) 2 5 (2 : Int32)).1 2 1)) ≤ (Int32.toInt ((dc_wi (dc_wi (dc_wi (dc_wi m 2 6 (m.1 2 4)) 2 7 ((dc_wi m 2 6 (m.1 2 4)).1 (2 + 1) (Int32.toNatClampNeg ((dc_wi m 2 6 (m.1 2 4)).1 2 4)))) 2 4 (((dc_wi (dc_wi m 2 6 (m.1 2 4)) 2 7 ((dc_wi m 2 6 (m.1 2 4)).1 (2 + 1) (Int32.toNatClampNeg ((dc_wi m 2 6 (m.1 2 4)).1 2 4)))).1 2 4) + (1 : Int32))) 2 5 (2 : Int32)).1 2 4))
        · rw [if_pos c9] at h
          cases h
          exact (fa_wi (fa_wi (fa_wi (fa_wi hD (by omega)) (by omega)) (by omega)) (by omega))
        · rw [if_neg c9] at h
          by_cases c10 : (Int32.toInt (d_X4_isFigure ((dc_wi (dc_wi (dc_wi (dc_wi m 2 6 (m.1 2 4)) 2 7 ((dc_wi m 2 6 (m.1 2 4)).1 (2 + 1) (Int32.toNatClampNeg ((dc_wi m 2 6 (m.1 2 4)).1 2 4)))) 2 4 (((dc_wi (dc_wi m 2 6 (m.1 2 4)) 2 7 ((dc_wi m 2 6 (m.1 2 4)).1 (2 + 1) (Int32.toNatClampNeg ((dc_wi m 2 6 (m.1 2 4)).1 2 4)))).1 2 4) + (1 : Int32))) 2 5 (2 : Int32)).1 (2 + 1) (Int32.toNatClampNeg ((dc_wi (dc_wi (dc_wi (dc_wi m 2 6 (m.1 2 4)) 2 7 ((dc_wi m 2 6 (m.1 2 4)).1 (2 + 1) (Int32.toNatClampNeg ((dc_wi m 2 6 (m.1 2 4)).1 2 4)))) 2 4 (((dc_wi (dc_wi m 2 6 (m.1 2 4)) 2 7 ((dc_wi m 2 6 (m.1 2 4)).1 (2 + 1) (Int32.toNatClampNeg ((dc_wi m 2 6 (m.1 2 4)).1 2 4)))).1 2 4) + (1 : Int32))) 2 5 (2 : Int32)).1 2 4))) (dc_wi (dc_wi (dc_wi (dc_wi m 2 6 (m.1 2 4)) 2 7 ((dc_wi m 2 6 (m.1 2 4)).1 (2 + 1) (Int32.toNatClampNeg ((dc_wi m 2 6 (m.1 2 4)).1 2 4)))) 2 4 (((dc_wi (dc_wi m 2 6 (m.1 2 4)) 2 7 ((dc_wi m 2 6 (m.1 2 4)).1 (2 + 1) (Int32.toNatClampNeg ((dc_wi m 2 6 (m.1 2 4)).1 2 4)))).1 2 4) + (1 : Int32))) 2 5 (2 : Int32)))) = 0
          · rw [if_pos c10] at h
            cases h
            exact (fa_wi (fa_wi (fa_wi (fa_wi hD (by omega)) (by omega)) (by omega)) (by omega))
          · rw [if_neg c10] at h
            have dq2 : fa a c0 ((d_X4_refuse 2 (1 : Int32) ((dc_wi (dc_wi (dc_wi (dc_wi m 2 6 (m.1 2 4)) 2 7 ((dc_wi m 2 6 (m.1 2 4)).1 (2 + 1) (Int32.toNatClampNeg ((dc_wi m 2 6 (m.1 2 4)).1 2 4)))) 2 4 (((dc_wi (dc_wi m 2 6 (m.1 2 4)) 2 7 ((dc_wi m 2 6 (m.1 2 4)).1 (2 + 1) (Int32.toNatClampNeg ((dc_wi m 2 6 (m.1 2 4)).1 2 4)))).1 2 4) + (1 : Int32))) 2 5 (2 : Int32)).1 2 6) (dc_wi (dc_wi (dc_wi (dc_wi m 2 6 (m.1 2 4)) 2 7 ((dc_wi m 2 6 (m.1 2 4)).1 (2 + 1) (Int32.toNatClampNeg ((dc_wi m 2 6 (m.1 2 4)).1 2 4)))) 2 4 (((dc_wi (dc_wi m 2 6 (m.1 2 4)) 2 7 ((dc_wi m 2 6 (m.1 2 4)).1 (2 + 1) (Int32.toNatClampNeg ((dc_wi m 2 6 (m.1 2 4)).1 2 4)))).1 2 4) + (1 : Int32))) 2 5 (2 : Int32)))) := fa_X4_refuse (fa_wi (fa_wi (fa_wi (fa_wi hD (by omega)) (by omega)) (by omega)) (by omega))
            generalize (d_X4_refuse 2 (1 : Int32) ((dc_wi (dc_wi (dc_wi (dc_wi m 2 6 (m.1 2 4)) 2 7 ((dc_wi m 2 6 (m.1 2 4)).1 (2 + 1) (Int32.toNatClampNeg ((dc_wi m 2 6 (m.1 2 4)).1 2 4)))) 2 4 (((dc_wi (dc_wi m 2 6 (m.1 2 4)) 2 7 ((dc_wi m 2 6 (m.1 2 4)).1 (2 + 1) (Int32.toNatClampNeg ((dc_wi m 2 6 (m.1 2 4)).1 2 4)))).1 2 4) + (1 : Int32))) 2 5 (2 : Int32)).1 2 6) (dc_wi (dc_wi (dc_wi (dc_wi m 2 6 (m.1 2 4)) 2 7 ((dc_wi m 2 6 (m.1 2 4)).1 (2 + 1) (Int32.toNatClampNeg ((dc_wi m 2 6 (m.1 2 4)).1 2 4)))) 2 4 (((dc_wi (dc_wi m 2 6 (m.1 2 4)) 2 7 ((dc_wi m 2 6 (m.1 2 4)).1 (2 + 1) (Int32.toNatClampNeg ((dc_wi m 2 6 (m.1 2 4)).1 2 4)))).1 2 4) + (1 : Int32))) 2 5 (2 : Int32))) = q2 at h dq2
            rw [dc_let_eq] at h
            cases h
            exact dq2
    · rw [if_neg c2] at h
      exact fa_X4_take_l109  (fa_wi (fa_wi (fa_wi (fa_wi hD (by omega)) (by omega)) (by omega)) (by omega)) h
  · rw [if_neg c1] at h
    cases h
    exact (fa_wi (fa_wi hD (by omega)) (by omega))
theorem fa_X4_take_l8 {m : dc_M} {a : Nat} {c0 : dc_M}  {e : dc_M} (hD : fa a c0 m) (h : d_X4_take_l8 2 m = some e) : fa a c0 e := by
  unfold d_X4_take_l8 at h
  refine dc_lp_inv (fun s => fa a c0 s) (fun e => fa a c0 e) (fun s s' hI e1 => ?_) (fun s e' hI e1 => ?_) hD h
  · unfold d_X4_take_l8s d_X4_take_l8b at e1
    by_cases c1 : (Int32.toInt (s.1 2 1)) ≤ (Int32.toInt (s.1 2 4))
    · rw [if_pos c1] at e1
      cases hz : d_X4_take_b46 2 s with
      | none => rw [hz] at e1; cases e1
      | some z =>
        rw [hz] at e1
        cases e1
    · rw [if_neg c1] at e1
      by_cases c2 : ¬ (Int32.toInt (s.1 (2 + 1) (Int32.toNatClampNeg (s.1 2 4)))) = 32
      · rw [if_pos c2] at e1
        cases hz : d_X4_take_b46 2 s with
        | none => rw [hz] at e1; cases e1
        | some z =>
          rw [hz] at e1
          cases e1
      · rw [if_neg c2] at e1
        cases e1
        exact (fa_wi hI (by omega))
  · unfold d_X4_take_l8s d_X4_take_l8b at e1
    by_cases c1 : (Int32.toInt (s.1 2 1)) ≤ (Int32.toInt (s.1 2 4))
    · rw [if_pos c1] at e1
      cases hz : d_X4_take_b46 2 s with
      | none => rw [hz] at e1; cases e1
      | some z =>
        rw [hz] at e1
        cases e1
        exact fa_X4_take_b46  hI hz
    · rw [if_neg c1] at e1
      by_cases c2 : ¬ (Int32.toInt (s.1 (2 + 1) (Int32.toNatClampNeg (s.1 2 4)))) = 32
      · rw [if_pos c2] at e1
        cases hz : d_X4_take_b46 2 s with
        | none => rw [hz] at e1; cases e1
        | some z =>
          rw [hz] at e1
          cases e1
          exact fa_X4_take_b46  hI hz
      · rw [if_neg c2] at e1
        cases e1
theorem fa_X4_take {m : dc_M} {a : Nat} {c0 : dc_M}  {e : dc_M} (hD : fa a c0 m) (h : d_X4_take 2 m = some e) : fa a c0 e := by
  unfold d_X4_take at h
  by_cases c1 : (Int32.toInt (m.1 2 2)) = 0
  · rw [if_pos c1] at h
    exact fa_X4_take_l8  hD h
  · rw [if_neg c1] at h
    cases h
    exact hD
theorem fa_X3_addWire {m : dc_M} {a : Nat} {c0 : dc_M} {x0 : Nat} {x1 : Int32} {x2 : Int32} (hx : x0 = a) (hD : fa a c0 m) : fa a c0 ((d_X3_addWire x0 x1 x2 m).2) := by
  unfold d_X3_addWire
  by_cases c1 : (Int32.toInt (m.1 x0 0)) < 6
  · rw [if_pos c1]
    exact (fa_wi (fa_wi (fa_wi hD (by omega)) (by omega)) (by omega))
  · rw [if_neg c1]
    exact hD
theorem fa_X3_addEvent {m : dc_M} {a : Nat} {c0 : dc_M} {x0 : Nat} {x1 : Int32} {x2 : Int32} {x3 : Int32} (hx : x0 = a) (hD : fa a c0 m) : fa a c0 ((d_X3_addEvent x0 x1 x2 x3 m).2) := by
  unfold d_X3_addEvent
  by_cases c1 : (Int32.toInt (m.1 x0 1)) < 16
  · rw [if_pos c1]
    exact (fa_wi (fa_wi (fa_wi (fa_wi (fa_wi (fa_wi (fa_wi hD (by omega)) (by omega)) (by omega)) (by omega)) (by omega)) (by omega)) (by omega))
  · rw [if_neg c1]
    exact hD
theorem fa_X3_addPlace_b88 {m : dc_M} {a : Nat} {c0 : dc_M} {x0 : Nat} {x1 : Int32} {x2 : Int32} {x4 : Int32} {x5 : Int32} {s0 : Int32} {s1 : Int32} {s2 : Int32} {x : ((Int32 × dc_M) ⊕ dc_M)} (hx : x0 = a) (hD : fa a c0 m) (h : d_X3_addPlace_b88 x0 x1 x2 x4 x5 s0 s1 s2 (x0 + 7) m = some x) : (∀ s', x = .inl s' → fa a c0 s'.2) ∧ (∀ e, x = .inr e → fa a c0 e) := by
  unfold d_X3_addPlace_b88 at h
  by_cases c1 : (Int32.toInt ((x2 >>> (x5 &&& 31)) &&& (1 : Int32))) = 0
  · rw [if_pos c1] at h
    cases h
    exact ⟨fun _ q => by cases q; exact (fa_wi (fa_wi hD (by omega)) (by omega)), fun _ q => by cases q⟩
  · rw [if_neg c1] at h
    cases h
    exact ⟨fun _ q => by cases q; exact (fa_wi (fa_wi hD (by omega)) (by omega)), fun _ q => by cases q⟩
theorem fa_X3_addPlace_l56 {m : dc_M} {a : Nat} {c0 : dc_M} {x0 : Nat} {x1 : Int32} {x2 : Int32} {x4 : Int32} {x5 : Int32} {e : dc_M} (hx : x0 = a) (hD : fa a c0 m) (h : d_X3_addPlace_l56 x0 x1 x2 x4 x5 m = some e) : fa a c0 e := by
  unfold d_X3_addPlace_l56 at h
  refine dc_lp_inv (fun s => fa a c0 s.2) (fun e => fa a c0 e) (fun s s' hI e1 => ?_) (fun s e' hI e1 => ?_) hD h
  · unfold d_X3_addPlace_l56s d_X3_addPlace_l56b at e1
    by_cases c1 : (Int32.toInt (s.2.1 x0 1)) ≤ (Int32.toInt s.1)
    · rw [if_pos c1] at e1
      cases e1
    · rw [if_neg c1] at e1
      by_cases c2 : (Int32.toInt ((x1 >>> (s.1 &&& 31)) &&& (1 : Int32))) = 0
      · rw [if_pos c2] at e1
        exact (fa_X3_addPlace_b88 hx hI e1).1 _ rfl
      · rw [if_neg c2] at e1
        exact (fa_X3_addPlace_b88 hx hI e1).1 _ rfl
  · unfold d_X3_addPlace_l56s d_X3_addPlace_l56b at e1
    by_cases c1 : (Int32.toInt (s.2.1 x0 1)) ≤ (Int32.toInt s.1)
    · rw [if_pos c1] at e1
      cases e1
      exact (fa_wi hI (by omega))
    · rw [if_neg c1] at e1
      by_cases c2 : (Int32.toInt ((x1 >>> (s.1 &&& 31)) &&& (1 : Int32))) = 0
      · rw [if_pos c2] at e1
        exact (fa_X3_addPlace_b88 hx hI e1).2 _ rfl
      · rw [if_neg c2] at e1
        exact (fa_X3_addPlace_b88 hx hI e1).2 _ rfl
theorem fa_X3_addPlace {m : dc_M} {a : Nat} {c0 : dc_M} {x0 : Nat} {x1 : Int32} {x2 : Int32} {x3 : Int32} {e : dc_M} (hx : x0 = a) (hD : fa a c0 m) (h : d_X3_addPlace x0 x1 x2 x3 m = some e) : fa a c0 e := by
  unfold d_X3_addPlace at h
  by_cases c1 : (Int32.toInt (m.1 x0 2)) < 20
  · rw [if_pos c1] at h
    exact fa_X3_addPlace_l56 hx (fa_wi (fa_wi (fa_wi hD (by omega)) (by omega)) (by omega)) h
  · rw [if_neg c1] at h
    cases h
    exact hD
theorem fa_X4_numberOf {m : dc_M} {a : Nat} {c0 : dc_M} {x1 : Int32} {x2 : Int32} {x3 : Int32} {e : (Int32 × dc_M)} (hD : fa a c0 m) (h : d_X4_numberOf 2 x1 x2 x3 m = some e) : fa a c0 e.2 := by
  unfold d_X4_numberOf at h
  cases hq1 : (d_X3_eventLike (m.2.2.1 2 8) x1 x2 x3 m) with
  | none => rw [hq1] at h; cases h
  | some q1 =>
    rw [hq1, Option.bind_some] at h
    by_cases c1 : (Int32.toInt q1) < 0
    · rw [if_pos c1] at h
      have dq2 : fa a c0 ((d_X3_addEvent (m.2.2.1 2 8) x1 x2 x3 m).2) := fa_X3_addEvent hD.1 hD
      generalize (d_X3_addEvent (m.2.2.1 2 8) x1 x2 x3 m) = q2 at h dq2
      rw [dc_let_eq] at h
      cases h
      exact dq2
    · rw [if_neg c1] at h
      cases h
      exact hD
theorem fa_X4_readIndex {m : dc_M} {a : Nat} {c0 : dc_M}  {e : (Int32 × dc_M)} (hD : fa a c0 m) (h : d_X4_readIndex 2 m = some e) : fa a c0 e.2 := by
  unfold d_X4_readIndex at h
  cases hq1 : (d_X4_take 2 m) with
  | none => rw [hq1] at h; cases h
  | some q1 =>
    rw [hq1, Option.bind_some] at h
    have dq1 := fa_X4_take hD hq1
    by_cases c1 : (Int32.toInt (q1.1 2 5)) = 2
    · rw [if_pos c1] at h
      cases hq2 : (d_X4_take 2 q1) with
      | none => rw [hq2] at h; cases h
      | some q2 =>
        rw [hq2, Option.bind_some] at h
        have dq2 := fa_X4_take dq1 hq2
        cases h
        exact dq2
    · rw [if_neg c1] at h
      have dq3 : fa a c0 ((d_X4_refuse 2 (2 : Int32) (q1.1 2 6) q1)) := fa_X4_refuse dq1
      generalize (d_X4_refuse 2 (2 : Int32) (q1.1 2 6) q1) = q3 at h dq3
      rw [dc_let_eq] at h
      cases h
      exact dq3
theorem fa_X4_takeSign {m : dc_M} {a : Nat} {c0 : dc_M} {x1 : Int32} {e : dc_M} (hD : fa a c0 m) (h : d_X4_takeSign 2 x1 m = some e) : fa a c0 e := by
  unfold d_X4_takeSign at h
  by_cases c1 : (Int32.toInt (d_X4_isSign 2 x1 m)) = 0
  · rw [if_pos c1] at h
    have dq1 : fa a c0 ((d_X4_refuse 2 (2 : Int32) (m.1 2 6) m)) := fa_X4_refuse hD
    generalize (d_X4_refuse 2 (2 : Int32) (m.1 2 6) m) = q1 at h dq1
    rw [dc_let_eq] at h
    cases h
    exact dq1
  · rw [if_neg c1] at h
    cases hq2 : (d_X4_take 2 m) with
    | none => rw [hq2] at h; cases h
    | some q2 =>
      rw [hq2, Option.bind_some] at h
      have dq2 := fa_X4_take hD hq2
      cases h
      exact dq2
theorem fa_X4_readEvent_b151 {m : dc_M} {a : Nat} {c0 : dc_M} {x1 : Int32} {x2 : Int32} {s0 : Int32} {e : (Int32 × dc_M)} (hD : fa a c0 m) (h : d_X4_readEvent_b151 2 x1 x2 s0 m = some e) : fa a c0 e.2 := by
  unfold d_X4_readEvent_b151 at h
  by_cases c1 : 0 ≤ (Int32.toInt s0)
  · rw [if_pos c1] at h
    by_cases c2 : (Int32.toInt ((x1 >>> (s0 &&& 31)) &&& (1 : Int32))) = 0
    · rw [if_pos c2] at h
      cases h
      exact hD
    · rw [if_neg c2] at h
      have dq1 : fa a c0 ((d_X4_refuse 2 (5 : Int32) x2 m)) := fa_X4_refuse hD
      generalize (d_X4_refuse 2 (5 : Int32) x2 m) = q1 at h dq1
      rw [dc_let_eq] at h
      cases h
      exact dq1
  · rw [if_neg c1] at h
    have dq2 : fa a c0 ((d_X4_refuse 2 (6 : Int32) x2 m)) := fa_X4_refuse hD
    generalize (d_X4_refuse 2 (6 : Int32) x2 m) = q2 at h dq2
    rw [dc_let_eq] at h
    cases h
    exact dq2
theorem fa_X4_readEvent_b128 {m : dc_M} {a : Nat} {c0 : dc_M} {x1 : Int32} {x2 : Int32} {x3 : Int32} {x4 : Int32} {s0 : Int32} {e : (Int32 × dc_M)} (hD : fa a c0 m) (h : d_X4_readEvent_b128 2 x1 x2 x3 x4 s0 m = some e) : fa a c0 e.2 := by
  unfold d_X4_readEvent_b128 at h
  by_cases c1 : ¬ (Int32.toInt (m.1 2 2)) = 0
  · rw [if_pos c1] at h
    exact fa_X4_readEvent_b151  hD h
  · rw [if_neg c1] at h
    cases hq1 : (d_X4_numberOf 2 x3 x4 s0 m) with
    | none => rw [hq1] at h; cases h
    | some q1 =>
      rw [hq1, Option.bind_some] at h
      have dq1 := fa_X4_numberOf hD hq1
      exact fa_X4_readEvent_b151  dq1 h
theorem fa_X4_readEvent_b105 {m : dc_M} {a : Nat} {c0 : dc_M} {x1 : Int32} {x2 : Int32} {x3 : Int32} {s0 : Int32} {e : (Int32 × dc_M)} (hD : fa a c0 m) (h : d_X4_readEvent_b105 2 x1 x2 x3 s0 m = some e) : fa a c0 e.2 := by
  unfold d_X4_readEvent_b105 at h
  cases hq1 : (d_X4_take 2 m) with
  | none => rw [hq1] at h; cases h
  | some q1 =>
    rw [hq1, Option.bind_some] at h
    have dq1 := fa_X4_take hD hq1
    by_cases c1 : (Int32.toInt (d_X4_isSign 2 (47 : Int32) q1)) = 0
    · rw [if_pos c1] at h
      exact fa_X4_readEvent_b128  dq1 h
    · rw [if_neg c1] at h
      cases hq2 : (d_X4_readIndex 2 q1) with
      | none => rw [hq2] at h; cases h
      | some q2 =>
        rw [hq2, Option.bind_some] at h
        have dq2 := fa_X4_readIndex dq1 hq2
        exact fa_X4_readEvent_b128  dq2 h
theorem fa_X4_readEvent_b91 {m : dc_M} {a : Nat} {c0 : dc_M} {x1 : Int32} {x2 : Int32} {x3 : Int32} {e : (Int32 × dc_M)} (hD : fa a c0 m) (h : d_X4_readEvent_b91 2 x1 x2 x3 m = some e) : fa a c0 e.2 := by
  unfold d_X4_readEvent_b91 at h
  by_cases c1 : ¬ (Int32.toInt (m.1 2 7)) = 43
  · rw [if_pos c1] at h
    exact fa_X4_readEvent_b105  hD h
  · rw [if_neg c1] at h
    exact fa_X4_readEvent_b105  hD h
theorem fa_X4_readEvent_b31 {m : dc_M} {a : Nat} {c0 : dc_M} {x1 : Int32} {x2 : Int32} {s0 : Int32} {e : (Int32 × dc_M)} (hD : fa a c0 m) (h : d_X4_readEvent_b31 2 x1 x2 s0 m = some e) : fa a c0 e.2 := by
  unfold d_X4_readEvent_b31 at h
  by_cases c1 : 0 ≤ (Int32.toInt s0)
  · rw [if_pos c1] at h
    cases hq1 : (d_X4_take 2 m) with
    | none => rw [hq1] at h; cases h
    | some q1 =>
      rw [hq1, Option.bind_some] at h
      have dq1 := fa_X4_take hD hq1
      by_cases c2 : ¬ (Int32.toInt (d_X4_isSign 2 (43 : Int32) q1)) = 0
      · rw [if_pos c2] at h
        exact fa_X4_readEvent_b91  dq1 h
      · rw [if_neg c2] at h
        by_cases c3 : ¬ (Int32.toInt (d_X4_isSign 2 (45 : Int32) q1)) = 0
        · rw [if_pos c3] at h
          exact fa_X4_readEvent_b91  dq1 h
        · rw [if_neg c3] at h
          have dq2 : fa a c0 ((d_X4_refuse 2 (2 : Int32) (q1.1 2 6) q1)) := fa_X4_refuse dq1
          generalize (d_X4_refuse 2 (2 : Int32) (q1.1 2 6) q1) = q2 at h dq2
          rw [dc_let_eq] at h
          cases h
          exact dq2
  · rw [if_neg c1] at h
    by_cases c4 : (Int32.toInt (d_X4_isLetter 2 m)) = 0
    · rw [if_pos c4] at h
      have dq3 : fa a c0 ((d_X4_refuse 2 (2 : Int32) (m.1 2 6) m)) := fa_X4_refuse hD
      generalize (d_X4_refuse 2 (2 : Int32) (m.1 2 6) m) = q3 at h dq3
      rw [dc_let_eq] at h
      cases h
      exact dq3
    · rw [if_neg c4] at h
      have dq4 : fa a c0 ((d_X4_refuse 2 (4 : Int32) (m.1 2 6) m)) := fa_X4_refuse hD
      generalize (d_X4_refuse 2 (4 : Int32) (m.1 2 6) m) = q4 at h dq4
      rw [dc_let_eq] at h
      cases h
      exact dq4
theorem fa_X4_readEvent {m : dc_M} {a : Nat} {c0 : dc_M} {x1 : Int32} {e : (Int32 × dc_M)} (hD : fa a c0 m) (h : d_X4_readEvent 2 x1 m = some e) : fa a c0 e.2 := by
  unfold d_X4_readEvent at h
  by_cases c1 : (Int32.toInt (d_X4_isLetter 2 m)) = 0
  · rw [if_pos c1] at h
    exact fa_X4_readEvent_b31  hD h
  · rw [if_neg c1] at h
    cases hq1 : (d_X3_wireCalled (m.2.2.1 2 8) ((m.1 2 7) - (97 : Int32)) m) with
    | none => rw [hq1] at h; cases h
    | some q1 =>
      rw [hq1, Option.bind_some] at h
      exact fa_X4_readEvent_b31  hD h
theorem fa_X4_readPlace_b99 {m : dc_M} {a : Nat} {c0 : dc_M} {x1 : Int32} {x2 : Int32} {e : dc_M} (hD : fa a c0 m) (h : d_X4_readPlace_b99 2 x1 x2 m = some e) : fa a c0 e := by
  unfold d_X4_readPlace_b99 at h
  by_cases c1 : (Int32.toInt (m.1 2 5)) = 2
  · rw [if_pos c1] at h
    by_cases c2 : (Int32.toInt ((m.1 2 7) - (48 : Int32))) ≤ 1
    · rw [if_pos c2] at h
      cases hq1 : (d_X4_take 2 m) with
      | none => rw [hq1] at h; cases h
      | some q1 =>
        rw [hq1, Option.bind_some] at h
        have dq1 := fa_X4_take hD hq1
        cases hq2 : (d_X4_takeSign 2 (59 : Int32) q1) with
        | none => rw [hq2] at h; cases h
        | some q2 =>
          rw [hq2, Option.bind_some] at h
          have dq2 := fa_X4_takeSign dq1 hq2
          cases hq3 : (d_X3_addPlace (q2.2.2.1 2 8) x1 x2 ((m.1 2 7) - (48 : Int32)) q2) with
          | none => rw [hq3] at h; cases h
          | some q3 =>
            rw [hq3, Option.bind_some] at h
            have dq3 := fa_X3_addPlace dq2.1 dq2 hq3
            cases h
            exact dq3
    · rw [if_neg c2] at h
      have dq4 : fa a c0 ((d_X4_refuse 2 (3 : Int32) (m.1 2 6) m)) := fa_X4_refuse hD
      generalize (d_X4_refuse 2 (3 : Int32) (m.1 2 6) m) = q4 at h dq4
      rw [dc_let_eq] at h
      cases h
      exact dq4
  · rw [if_neg c1] at h
    have dq5 : fa a c0 ((d_X4_refuse 2 (2 : Int32) (m.1 2 6) m)) := fa_X4_refuse hD
    generalize (d_X4_refuse 2 (2 : Int32) (m.1 2 6) m) = q5 at h dq5
    rw [dc_let_eq] at h
    cases h
    exact dq5
theorem fa_X4_readPlace_l72 {m : dc_M} {a : Nat} {c0 : dc_M} {x1 : Int32} {x2 : Int32} {x3 : Int32} {e : dc_M} (hD : fa a c0 m) (h : d_X4_readPlace_l72 2 x1 x2 x3 m = some e) : fa a c0 e := by
  unfold d_X4_readPlace_l72 at h
  refine dc_lp_inv (fun s => fa a c0 s.2.2) (fun e => fa a c0 e) (fun s s' hI e1 => ?_) (fun s e' hI e1 => ?_) hD h
  · unfold d_X4_readPlace_l72s d_X4_readPlace_l72b at e1
    by_cases c1 : 16 ≤ (Int32.toInt s.2.1)
    · rw [if_pos c1] at e1
      cases hz : d_X4_readPlace_b99 2 x1 s.1 s.2.2 with
      | none => rw [hz] at e1; cases e1
      | some z =>
        rw [hz] at e1
        cases e1
    · rw [if_neg c1] at e1
      by_cases c2 : (Int32.toInt (d_X4_isLetter 2 s.2.2)) = 0
      · rw [if_pos c2] at e1
        cases hz : d_X4_readPlace_b99 2 x1 s.1 s.2.2 with
        | none => rw [hz] at e1; cases e1
        | some z =>
          rw [hz] at e1
          cases e1
      · rw [if_neg c2] at e1
        cases hq1 : (d_X4_readEvent 2 s.1 s.2.2) with
        | none => rw [hq1] at e1; cases e1
        | some q1 =>
          rw [hq1, Option.bind_some] at e1
          have dq1 := fa_X4_readEvent hI hq1
          cases e1
          exact dq1
  · unfold d_X4_readPlace_l72s d_X4_readPlace_l72b at e1
    by_cases c1 : 16 ≤ (Int32.toInt s.2.1)
    · rw [if_pos c1] at e1
      cases hz : d_X4_readPlace_b99 2 x1 s.1 s.2.2 with
      | none => rw [hz] at e1; cases e1
      | some z =>
        rw [hz] at e1
        cases e1
        exact fa_X4_readPlace_b99  hI hz
    · rw [if_neg c1] at e1
      by_cases c2 : (Int32.toInt (d_X4_isLetter 2 s.2.2)) = 0
      · rw [if_pos c2] at e1
        cases hz : d_X4_readPlace_b99 2 x1 s.1 s.2.2 with
        | none => rw [hz] at e1; cases e1
        | some z =>
          rw [hz] at e1
          cases e1
          exact fa_X4_readPlace_b99  hI hz
      · rw [if_neg c2] at e1
        cases hq1 : (d_X4_readEvent 2 s.1 s.2.2) with
        | none => rw [hq1] at e1; cases e1
        | some q1 =>
          rw [hq1, Option.bind_some] at e1
          have dq1 := fa_X4_readEvent hI hq1
          cases e1
theorem fa_X4_readPlace_b58 {m : dc_M} {a : Nat} {c0 : dc_M} {x1 : Int32} {e : dc_M} (hD : fa a c0 m) (h : d_X4_readPlace_b58 2 x1 m = some e) : fa a c0 e := by
  unfold d_X4_readPlace_b58 at h
  cases hq1 : (d_X4_takeSign 2 (62 : Int32) m) with
  | none => rw [hq1] at h; cases h
  | some q1 =>
    rw [hq1, Option.bind_some] at h
    have dq1 := fa_X4_takeSign hD hq1
    cases hq2 : (d_X4_readEvent 2 (0 : Int32) q1) with
    | none => rw [hq2] at h; cases h
    | some q2 =>
      rw [hq2, Option.bind_some] at h
      have dq2 := fa_X4_readEvent dq1 hq2
      exact fa_X4_readPlace_l72  dq2 h
theorem fa_X4_readPlace_l31 {m : dc_M} {a : Nat} {c0 : dc_M} {x1 : Int32} {x2 : Int32} {e : dc_M} (hD : fa a c0 m) (h : d_X4_readPlace_l31 2 x1 x2 m = some e) : fa a c0 e := by
  unfold d_X4_readPlace_l31 at h
  refine dc_lp_inv (fun s => fa a c0 s.2.2) (fun e => fa a c0 e) (fun s s' hI e1 => ?_) (fun s e' hI e1 => ?_) hD h
  · unfold d_X4_readPlace_l31s d_X4_readPlace_l31b at e1
    by_cases c1 : 16 < (Int32.toInt s.2.1)
    · rw [if_pos c1] at e1
      cases hz : d_X4_readPlace_b58 2 s.1 s.2.2 with
      | none => rw [hz] at e1; cases e1
      | some z =>
        rw [hz] at e1
        cases e1
    · rw [if_neg c1] at e1
      by_cases c2 : (Int32.toInt (d_X4_isLetter 2 s.2.2)) = 0
      · rw [if_pos c2] at e1
        cases hz : d_X4_readPlace_b58 2 s.1 s.2.2 with
        | none => rw [hz] at e1; cases e1
        | some z =>
          rw [hz] at e1
          cases e1
      · rw [if_neg c2] at e1
        cases hq1 : (d_X4_readEvent 2 s.1 s.2.2) with
        | none => rw [hq1] at e1; cases e1
        | some q1 =>
          rw [hq1, Option.bind_some] at e1
          have dq1 := fa_X4_readEvent hI hq1
          cases e1
          exact dq1
  · unfold d_X4_readPlace_l31s d_X4_readPlace_l31b at e1
    by_cases c1 : 16 < (Int32.toInt s.2.1)
    · rw [if_pos c1] at e1
      cases hz : d_X4_readPlace_b58 2 s.1 s.2.2 with
      | none => rw [hz] at e1; cases e1
      | some z =>
        rw [hz] at e1
        cases e1
        exact fa_X4_readPlace_b58  hI hz
    · rw [if_neg c1] at e1
      by_cases c2 : (Int32.toInt (d_X4_isLetter 2 s.2.2)) = 0
      · rw [if_pos c2] at e1
        cases hz : d_X4_readPlace_b58 2 s.1 s.2.2 with
        | none => rw [hz] at e1; cases e1
        | some z =>
          rw [hz] at e1
          cases e1
          exact fa_X4_readPlace_b58  hI hz
      · rw [if_neg c2] at e1
        cases hq1 : (d_X4_readEvent 2 s.1 s.2.2) with
        | none => rw [hq1] at e1; cases e1
        | some q1 =>
          rw [hq1, Option.bind_some] at e1
          have dq1 := fa_X4_readEvent hI hq1
          cases e1
theorem fa_X4_readPlace {m : dc_M} {a : Nat} {c0 : dc_M}  {e : dc_M} (hD : fa a c0 m) (h : d_X4_readPlace 2 m = some e) : fa a c0 e := by
  unfold d_X4_readPlace at h
  by_cases c1 : (Int32.toInt (m.1 (m.2.2.1 2 8) 2)) < 20
  · rw [if_pos c1] at h
    cases hq1 : (d_X4_take 2 m) with
    | none => rw [hq1] at h; cases h
    | some q1 =>
      rw [hq1, Option.bind_some] at h
      have dq1 := fa_X4_take hD hq1
      exact fa_X4_readPlace_l31  dq1 h
  · rw [if_neg c1] at h
    have dq2 : fa a c0 ((d_X4_refuse 2 (6 : Int32) (m.1 2 6) m)) := fa_X4_refuse hD
    generalize (d_X4_refuse 2 (6 : Int32) (m.1 2 6) m) = q2 at h dq2
    rw [dc_let_eq] at h
    cases h
    exact dq2
theorem fa_X4_readWire {m : dc_M} {a : Nat} {c0 : dc_M} {x1 : Int32} {e : dc_M} (hD : fa a c0 m) (h : d_X4_readWire 2 x1 m = some e) : fa a c0 e := by
  unfold d_X4_readWire at h
  by_cases c1 : (Int32.toInt (m.1 (m.2.2.1 2 8) 0)) < 6
  · rw [if_pos c1] at h
    cases hq1 : (d_X4_take 2 m) with
    | none => rw [hq1] at h; cases h
    | some q1 =>
      rw [hq1, Option.bind_some] at h
      have dq1 := fa_X4_take hD hq1
      by_cases c2 : ¬ (Int32.toInt (d_X4_isLetter 2 q1)) = 0
      · rw [if_pos c2] at h
        cases hq2 : (d_X3_wireCalled (q1.2.2.1 2 8) ((q1.1 2 7) - (97 : Int32)) q1) with
        | none => rw [hq2] at h; cases h
        | some q2 =>
          rw [hq2, Option.bind_some] at h
          by_cases c3 : (Int32.toInt q2) < 0
          · rw [if_pos c3] at h
            have dq3 : fa a c0 ((d_X3_addWire (q1.2.2.1 2 8) ((q1.1 2 7) - (97 : Int32)) x1 q1).2) := fa_X3_addWire dq1.1 dq1
            generalize (d_X3_addWire (q1.2.2.1 2 8) ((q1.1 2 7) - (97 : Int32)) x1 q1) = q3 at h dq3
            rw [dc_let_eq] at h
            cases hq4 : (d_X4_take 2 q3.2) with
            | none => rw [hq4] at h; cases h
            | some q4 =>
              rw [hq4, Option.bind_some] at h
              have dq4 := fa_X4_take dq3 hq4
              cases hq5 : (d_X4_takeSign 2 (59 : Int32) q4) with
              | none => rw [hq5] at h; cases h
              | some q5 =>
                rw [hq5, Option.bind_some] at h
                have dq5 := fa_X4_takeSign dq4 hq5
                cases h
                exact dq5
          · rw [if_neg c3] at h
            have dq6 : fa a c0 ((d_X4_refuse 2 (4 : Int32) (q1.1 2 6) q1)) := fa_X4_refuse dq1
            generalize (d_X4_refuse 2 (4 : Int32) (q1.1 2 6) q1) = q6 at h dq6
            rw [dc_let_eq] at h
            cases h
            exact dq6
      · rw [if_neg c2] at h
        have dq7 : fa a c0 ((d_X4_refuse 2 (2 : Int32) (q1.1 2 6) q1)) := fa_X4_refuse dq1
        generalize (d_X4_refuse 2 (2 : Int32) (q1.1 2 6) q1) = q7 at h dq7
        rw [dc_let_eq] at h
        cases h
        exact dq7
  · rw [if_neg c1] at h
    have dq8 : fa a c0 ((d_X4_refuse 2 (6 : Int32) (m.1 2 6) m)) := fa_X4_refuse hD
    generalize (d_X4_refuse 2 (6 : Int32) (m.1 2 6) m) = q8 at h dq8
    rw [dc_let_eq] at h
    cases h
    exact dq8
theorem fa_X4_readLine {m : dc_M} {a : Nat} {c0 : dc_M}  {e : dc_M} (hD : fa a c0 m) (h : d_X4_readLine 2 m = some e) : fa a c0 e := by
  unfold d_X4_readLine at h
  cases hq1 : (d_X4_isWord 2 1 m) with
  | none => rw [hq1] at h; cases h
  | some q1 =>
    rw [hq1, Option.bind_some] at h
    by_cases c1 : (Int32.toInt q1) = 0
    · rw [if_pos c1] at h
      cases hq2 : (d_X4_isWord 2 2 m) with
      | none => rw [hq2] at h; cases h
      | some q2 =>
        rw [hq2, Option.bind_some] at h
        by_cases c2 : (Int32.toInt q2) = 0
        · rw [if_pos c2] at h
          cases hq3 : (d_X4_isWord 2 3 m) with
          | none => rw [hq3] at h; cases h
          | some q3 =>
            rw [hq3, Option.bind_some] at h
            by_cases c3 : (Int32.toInt q3) = 0
            · rw [if_pos c3] at h
              cases hq4 : (d_X4_isWord 2 4 m) with
              | none => rw [hq4] at h; cases h
              | some q4 =>
                rw [hq4, Option.bind_some] at h
                by_cases c4 : (Int32.toInt q4) = 0
                · rw [if_pos c4] at h
                  have dq5 : fa a c0 ((d_X4_refuse 2 (2 : Int32) (m.1 2 6) m)) := fa_X4_refuse hD
                  generalize (d_X4_refuse 2 (2 : Int32) (m.1 2 6) m) = q5 at h dq5
                  rw [dc_let_eq] at h
                  cases h
                  exact dq5
                · rw [if_neg c4] at h
                  cases hq6 : (d_X4_readPlace 2 m) with
                  | none => rw [hq6] at h; cases h
                  | some q6 =>
                    rw [hq6, Option.bind_some] at h
                    have dq6 := fa_X4_readPlace hD hq6
                    cases h
                    exact dq6
            · rw [if_neg c3] at h
              cases hq7 : (d_X4_readWire 2 (2 : Int32) m) with
              | none => rw [hq7] at h; cases h
              | some q7 =>
                rw [hq7, Option.bind_some] at h
                have dq7 := fa_X4_readWire hD hq7
                cases h
                exact dq7
        · rw [if_neg c2] at h
          cases hq8 : (d_X4_readWire 2 (1 : Int32) m) with
          | none => rw [hq8] at h; cases h
          | some q8 =>
            rw [hq8, Option.bind_some] at h
            have dq8 := fa_X4_readWire hD hq8
            cases h
            exact dq8
    · rw [if_neg c1] at h
      cases hq9 : (d_X4_readWire 2 (0 : Int32) m) with
      | none => rw [hq9] at h; cases h
      | some q9 =>
        rw [hq9, Option.bind_some] at h
        have dq9 := fa_X4_readWire hD hq9
        cases h
        exact dq9
theorem fa_l33 {m : dc_M} {a : Nat} {c0 : dc_M} {x : Int32} {e : Int32 × dc_M} (hD : fa a c0 m) (h : d_X4_readInto_l33 2 x m = some e) : fa a c0 e.2 := by
  unfold d_X4_readInto_l33 at h
  refine dc_lp_inv (fun s : Int32 × dc_M => fa a c0 s.2) (fun e : Int32 × dc_M => fa a c0 e.2) (fun s s' hI hs => ?_) (fun s e hI hs => ?_) (show fa a c0 m from hD) h
  · have hs : d_X4_readInto_l33b 2 s.1 s.2 = some (.inl s') := hs
    unfold d_X4_readInto_l33b at hs
    split at hs
    · cases hz : d_X4_readInto_b64 2 s.2 with
      | none => rw [hz] at hs; cases hs
      | some z => rw [hz] at hs; cases hs
    · split at hs
      · cases hz : d_X4_readInto_b64 2 s.2 with
        | none => rw [hz] at hs; cases hs
        | some z => rw [hz] at hs; cases hs
      · split at hs
        · cases hz : d_X4_readInto_b64 2 s.2 with
          | none => rw [hz] at hs; cases hs
          | some z => rw [hz] at hs; cases hs
        · cases hz : d_X4_readLine 2 s.2 with
          | none => rw [hz] at hs; cases hs
          | some z =>
            rw [hz, Option.bind_some] at hs
            cases hs
            exact fa_X4_readLine hI hz
  · have hs : d_X4_readInto_l33b 2 s.1 s.2 = some (.inr e) := hs
    have fin : ∀ z, d_X4_readInto_b64 2 s.2 = some z → fa a c0 z.2 := fun z hz => by
      unfold d_X4_readInto_b64 at hz
      split at hz <;> (cases hz; exact hI)
    unfold d_X4_readInto_l33b at hs
    split at hs
    · cases hz : d_X4_readInto_b64 2 s.2 with
      | none => rw [hz] at hs; cases hs
      | some z => rw [hz] at hs; cases hs; exact fin _ hz
    · split at hs
      · cases hz : d_X4_readInto_b64 2 s.2 with
        | none => rw [hz] at hs; cases hs
        | some z => rw [hz] at hs; cases hs; exact fin _ hz
      · split at hs
        · cases hz : d_X4_readInto_b64 2 s.2 with
          | none => rw [hz] at hs; cases hs
          | some z => rw [hz] at hs; cases hs; exact fin _ hz
        · cases hz : d_X4_readLine 2 s.2 with
          | none => rw [hz] at hs; cases hs
          | some z => rw [hz, Option.bind_some] at hs; cases hs
theorem fa_into {a : Nat} {c : dc_M} {z : Int32 × dc_M} (h : d_X4_readInto 2 a c = some z) : fa a c z.2 := by
  unfold d_X4_readInto d_X4_readInto_b5 at h
  rw [dc_let_eq] at h
  cases ht : d_X4_take 2 (dc_wi (dc_wi (dc_wi (d_X3_clear ((dc_wr c 2 8 a).2.2.1 2 8) (dc_wr c 2 8 a)) 2 2 0) 2 3 0) 2 4 0) with
  | none => rw [ht] at h; cases h
  | some e =>
    rw [ht, Option.bind_some] at h
    have q : fa a c (dc_wr c 2 8 a) := ⟨rfl, fun _ _ _ _ => rfl⟩
    have q1 : fa a c (d_X3_clear ((dc_wr c 2 8 a).2.2.1 2 8) (dc_wr c 2 8 a)) := by
      rw [show (dc_wr c 2 8 a).2.2.1 2 8 = a from rfl]
      exact fa_wi (fa_wi (fa_wi (fa_wi q (by omega)) (by omega)) (by omega)) (by omega)
    have q2 := fa_wi (k := 4) (v := 0) (fa_wi (k := 3) (v := 0) (fa_wi (k := 2) (v := 0) q1 (Or.inl rfl)) (Or.inl rfl)) (Or.inl rfl)
    exact fa_l33 (fa_X4_take q2 ht) h
/-- the class's tape is left alone -/
theorem fa_text {a : Nat} {c c' : dc_M} {v : Int32} (ha : c.2.2.1 1 8 = a) (h41 : a = 41 ∨ a = 52) (h : d_X9_text 1 c = some (v, c')) : ∀ j, c'.1 3 j = c.1 3 j := fun j => by
  unfold d_X9_text at h
  rw [show 1 + 1 = 2 from rfl, ha] at h
  cases hz : d_X4_readInto 2 a c with
  | none => rw [hz] at h; cases h
  | some z =>
    rw [hz, Option.bind_some] at h
    have q := (fa_into hz).2 3 j (by decide) (by omega)
    split at h
    · rw [dc_let_eq] at h
      have h := Option.some.inj h
      obtain ⟨-, hc⟩ := Prod.mk.inj h
      rw [← hc]
      exact q
    · have h := Option.some.inj h
      obtain ⟨-, hc⟩ := Prod.mk.inj h
      rw [← hc]
      exact q
/-- the reference, while it reads -/
def fb (m0 m : dc_M) : Prop := m.2 = m0.2 ∧ ∀ b k, ¬ (b = 82 ∧ (15 ≤ k ∧ k ≤ 21 ∨ k = 24 ∨ k = 30 ∨ k = 31)) → ¬ (92 ≤ b ∧ b ≤ 98) → m.1 b k = m0.1 b k
theorem fb_wi {m0 m : dc_M} {x k : Nat} {v : Int32} (h : fb m0 m) (hs : (x = 82 ∧ (15 ≤ k ∧ k ≤ 21 ∨ k = 24 ∨ k = 30 ∨ k = 31)) ∨ (92 ≤ x ∧ x ≤ 98)) : fb m0 (dc_wi m x k v) := ⟨h.1, fun b j h1 h2 => (wi_k (by omega)).trans (h.2 b j h1 h2)⟩
theorem fb_X10_failsAt {m : dc_M} {m0 : dc_M} {x1 : Int32} {x2 : Int32} (hD : fb m0 m) : fb m0 ((d_X10_failsAt 82 x1 x2 m)) := by
  unfold d_X10_failsAt
  by_cases c1 : ¬ (Int32.toInt (m.1 82 15)) = 0
  · rw [if_pos c1]
    exact hD
  · rw [if_neg c1]
    exact (fb_wi (fb_wi hD (by omega)) (by omega))
theorem fb_X10_fails {m : dc_M} {m0 : dc_M} {x1 : Int32} (hD : fb m0 m) : fb m0 ((d_X10_fails 82 x1 m)) := by
  unfold d_X10_fails
  have dq1 : fb m0 ((d_X10_failsAt 82 x1 (m.1 82 18) m)) := fb_X10_failsAt hD
  generalize (d_X10_failsAt 82 x1 (m.1 82 18) m) = q1 at dq1 ⊢
  rw [dc_let_eq]
  exact dq1
theorem fb_X10_next_b216 {m : dc_M} {m0 : dc_M} {x1 : Int32} {e : dc_M} (hD : fb m0 m) (h : d_X10_next_b216 82 x1 m = some e) : fb m0 e := by
  unfold d_X10_next_b216 at h
  by_cases c1 : (Int32.toInt (((dc_wi (dc_wi m 82 20 (x1 - (48 : Int32))) 82 19 (2 : Int32)).1 82 17) - ((dc_wi (dc_wi m 82 20 (x1 - (48 : Int32))) 82 19 (2 : Int32)).1 82 18))) ≤ 1
  · rw [if_pos c1] at h
    cases h
    exact (fb_wi (fb_wi hD (by omega)) (by omega))
  · rw [if_neg c1] at h
    have dq1 : fb m0 ((d_X10_fails 82 (1 : Int32) (dc_wi (dc_wi m 82 20 (x1 - (48 : Int32))) 82 19 (2 : Int32)))) := fb_X10_fails (fb_wi (fb_wi hD (by omega)) (by omega))
    generalize (d_X10_fails 82 (1 : Int32) (dc_wi (dc_wi m 82 20 (x1 - (48 : Int32))) 82 19 (2 : Int32))) = q1 at h dq1
    rw [dc_let_eq] at h
    cases h
    exact dq1
theorem fb_X10_next_l182 {m : dc_M} {m0 : dc_M} {x1 : Int32} {e : dc_M} (hD : fb m0 m) (h : d_X10_next_l182 82 x1 m = some e) : fb m0 e := by
  unfold d_X10_next_l182 at h
  refine dc_lp_inv (fun s => fb m0 s) (fun e => fb m0 e) (fun s s' hI e1 => ?_) (fun s e' hI e1 => ?_) hD h
  · unfold d_X10_next_l182s d_X10_next_l182b at e1
    by_cases c1 : (Int32.toInt (d_X10_in (Int32.toInt64 (d_X10_byteAt 82 (s.1 82 17) s)) (48 : Int64) (57 : Int64) s)) = 0
    · rw [if_pos c1] at e1
      cases hz : d_X10_next_b216 82 x1 s with
      | none => rw [hz] at e1; cases e1
      | some z =>
        rw [hz] at e1
        cases e1
    · rw [if_neg c1] at e1
      cases e1
      exact (fb_wi hI (by omega))
  · unfold d_X10_next_l182s d_X10_next_l182b at e1
    by_cases c1 : (Int32.toInt (d_X10_in (Int32.toInt64 (d_X10_byteAt 82 (s.1 82 17) s)) (48 : Int64) (57 : Int64) s)) = 0
    · rw [if_pos c1] at e1
      cases hz : d_X10_next_b216 82 x1 s with
      | none => rw [hz] at e1; cases e1
      | some z =>
        rw [hz] at e1
        cases e1
        exact fb_X10_next_b216  hI hz
    · rw [if_neg c1] at e1
      cases e1
theorem fb_X10_next_l84 {m : dc_M} {m0 : dc_M}  {e : dc_M} (hD : fb m0 m) (h : d_X10_next_l84 82 m = some e) : fb m0 e := by
  unfold d_X10_next_l84 at h
  refine dc_lp_inv (fun s => fb m0 s) (fun e => fb m0 e) (fun s s' hI e1 => ?_) (fun s e' hI e1 => ?_) hD h
  · unfold d_X10_next_l84s d_X10_next_l84b at e1
    by_cases c1 : (Int32.toInt (d_X10_in (Int32.toInt64 (d_X10_byteAt 82 (s.1 82 17) s)) (97 : Int64) (122 : Int64) s)) = 0
    · rw [if_pos c1] at e1
      cases e1
    · rw [if_neg c1] at e1
      by_cases c2 : 5 ≤ (Int32.toInt ((s.1 82 17) - (s.1 82 18)))
      · rw [if_pos c2] at e1
        cases e1
        exact (fb_wi (fb_wi hI (by omega)) (by omega))
      · rw [if_neg c2] at e1
        cases e1
        exact (fb_wi (fb_wi hI (by omega)) (by omega))
  · unfold d_X10_next_l84s d_X10_next_l84b at e1
    by_cases c1 : (Int32.toInt (d_X10_in (Int32.toInt64 (d_X10_byteAt 82 (s.1 82 17) s)) (97 : Int64) (122 : Int64) s)) = 0
    · rw [if_pos c1] at e1
      cases e1
      exact (fb_wi hI (by omega))
    · rw [if_neg c1] at e1
      by_cases c2 : 5 ≤ (Int32.toInt ((s.1 82 17) - (s.1 82 18)))
      · rw [if_pos c2] at e1
        cases e1
      · rw [if_neg c2] at e1
        cases e1
theorem fb_X10_next_b34 {m : dc_M} {m0 : dc_M}  {e : dc_M} (hD : fb m0 m) (h : d_X10_next_b34 82 m = some e) : fb m0 e := by
  unfold d_X10_next_b34 at h
  by_cases c1 : ¬ (Int32.toInt (d_X10_byteAt 82 ((dc_wi m 82 18 (m.1 82 17)).1 82 17) (dc_wi m 82 18 (m.1 82 17)))) = (-4)
  · rw [if_pos c1] at h
    by_cases c2 : (Int32.toInt (d_X10_in (Int32.toInt64 (d_X10_byteAt 82 ((dc_wi m 82 18 (m.1 82 17)).1 82 17) (dc_wi m 82 18 (m.1 82 17)))) (97 : Int64) (122 : Int64) (dc_wi (dc_wi m 82 18 (m.1 82 17)) 82 20 (0 : Int32)))) = 0
    · rw [if_pos c2] at h
      by_cases c3 : (Int32.toInt (d_X10_in (Int32.toInt64 (d_X10_byteAt 82 ((dc_wi m 82 18 (m.1 82 17)).1 82 17) (dc_wi m 82 18 (m.1 82 17)))) (48 : Int64) (57 : Int64) (dc_wi (dc_wi m 82 18 (m.1 82 17)) 82 20 (0 : Int32)))) = 0
      · rw [if_pos c3] at h
        by_cases c4 : (Int32.toInt (d_X10_byteAt 82 ((dc_wi m 82 18 (m.1 82 17)).1 82 17) (dc_wi m 82 18 (m.1 82 17)))) = 43
        · rw [if_pos c4] at h
          cases h
          exact (fb_wi (fb_wi (fb_wi (fb_wi (fb_wi hD (by omega)) (by omega)) (by omega)) (by omega)) (by omega))
        · rw [if_neg c4] at h
          by_cases c5 : (Int32.toInt (d_X10_byteAt 82 ((dc_wi m 82 18 (m.1 82 17)).1 82 17) (dc_wi m 82 18 (m.1 82 17)))) = 45
          · rw [if_pos c5] at h
            cases h
            exact (fb_wi (fb_wi (fb_wi (fb_wi (fb_wi hD (by omega)) (by omega)) (by omega)) (by omega)) (by omega))
          · rw [if_neg c5] at h
            by_cases c6 : (Int32.toInt (d_X10_byteAt 82 ((dc_wi m 82 18 (m.1 82 17)).1 82 17) (dc_wi m 82 18 (m.1 82 17)))) = 47
            · rw [if_pos c6] at h
              cases h
              exact (fb_wi (fb_wi (fb_wi (fb_wi (fb_wi hD (by omega)) (by omega)) (by omega)) (by omega)) (by omega))
            · rw [if_neg c6] at h
              by_cases c7 : (Int32.toInt (d_X10_byteAt 82 ((dc_wi m 82 18 (m.1 82 17)).1 82 17) (dc_wi m 82 18 (m.1 82 17)))) = 62
              · rw [if_pos c7] at h
                cases h
                exact (fb_wi (fb_wi (fb_wi (fb_wi (fb_wi hD (by omega)) (by omega)) (by omega)) (by omega)) (by omega))
              · rw [if_neg c7] at h
                by_cases c8 : (Int32.toInt (d_X10_byteAt 82 ((dc_wi m 82 18 (m.1 82 17)).1 82 17) (dc_wi m 82 18 (m.1 82 17)))) = 59
                · rw [if_pos c8] at h
                  cases h
                  exact (fb_wi (fb_wi (fb_wi (fb_wi (fb_wi hD (by omega)) (by omega)) (by omega)) (by omega)) (by omega))
                · rw [if_neg c8] at h
                  have dq1 : fb m0 ((d_X10_fails 82 (1 : Int32) (dc_wi (dc_wi (dc_wi (dc_wi (dc_wi m 82 18 (m.1 82 17)) 82 20 (0 : Int32)) 82 19 (3 : Int32)) 82 20 (d_X10_byteAt 82 ((dc_wi m 82 18 (m.1 82 17)).1 82 17) (dc_wi m 82 18 (m.1 82 17)))) 82 17 (((dc_wi (dc_wi (dc_wi (dc_wi m 82 18 (m.1 82 17)) 82 20 (0 : Int32)) 82 19 (3 : Int32)) 82 20 (d_X10_byteAt 82 ((dc_wi m 82 18 (m.1 82 17)).1 82 17) (dc_wi m 82 18 (m.1 82 17)))).1 82 17) + (1 : Int32))))) := fb_X10_fails (fb_wi (fb_wi (fb_wi (fb_wi (fb_wi hD (by omega)) (by omega)) (by omega)) (by omega)) (by omega))
                  generalize (d_X10_fails 82 (1 : Int32) (dc_wi (dc_wi (dc_wi (dc_wi (dc_wi m 82 18 (m.1 82 17)) 82 20 (0 : Int32)) 82 19 (3 : Int32)) 82 20 (d_X10_byteAt 82 ((dc_wi m 82 18 (m.1 82 17)).1 82 17) (dc_wi m 82 18 (m.1 82 17)))) 82 17 (((dc_wi (dc_wi (dc_wi (dc_wi m 82 18 (m.1 82 17)) 82 20 (0 : Int32)) 82 19 (3 : Int32)) 82 20 (d_X10_byteAt 82 ((dc_wi m 82 18 (m.1 82 17)).1 82 17) (dc_wi m 82 18 (m.1 82 17)))).1 82 17) + (1 : Int32)))) = q1 at h dq1
                  rw [dc_let_eq] at h
                  cases h
                  exact dq1
      · rw [if_neg c3] at h
        exact fb_X10_next_l182  (fb_wi (fb_wi hD (by omega)) (by omega)) h
    · rw [if_neg c2] at h
      exact fb_X10_next_l84  (fb_wi (fb_wi hD (by omega)) (by omega)) h
  · rw [if_neg c1] at h
    cases h
    exact (fb_wi (fb_wi (fb_wi hD (by omega)) (by omega)) (by omega))
theorem fb_X10_next_l8 {m : dc_M} {m0 : dc_M}  {e : dc_M} (hD : fb m0 m) (h : d_X10_next_l8 82 m = some e) : fb m0 e := by
  unfold d_X10_next_l8 at h
  refine dc_lp_inv (fun s => fb m0 s) (fun e => fb m0 e) (fun s s' hI e1 => ?_) (fun s e' hI e1 => ?_) hD h
  · unfold d_X10_next_l8s d_X10_next_l8b at e1
    by_cases c1 : ¬ (Int32.toInt (d_X10_byteAt 82 (s.1 82 17) s)) = 32
    · rw [if_pos c1] at e1
      cases hz : d_X10_next_b34 82 s with
      | none => rw [hz] at e1; cases e1
      | some z =>
        rw [hz] at e1
        cases e1
    · rw [if_neg c1] at e1
      cases e1
      exact (fb_wi hI (by omega))
  · unfold d_X10_next_l8s d_X10_next_l8b at e1
    by_cases c1 : ¬ (Int32.toInt (d_X10_byteAt 82 (s.1 82 17) s)) = 32
    · rw [if_pos c1] at e1
      cases hz : d_X10_next_b34 82 s with
      | none => rw [hz] at e1; cases e1
      | some z =>
        rw [hz] at e1
        cases e1
        exact fb_X10_next_b34  hI hz
    · rw [if_neg c1] at e1
      cases e1
theorem fb_X10_next {m : dc_M} {m0 : dc_M}  {e : dc_M} (hD : fb m0 m) (h : d_X10_next 82 m = some e) : fb m0 e := by
  unfold d_X10_next at h
  by_cases c1 : (Int32.toInt (m.1 82 15)) ≤ 0
  · rw [if_pos c1] at h
    exact fb_X10_next_l8  hD h
  · rw [if_neg c1] at h
    cases h
    exact hD
theorem fb_X10_readEvent_b368 {m : dc_M} {m0 : dc_M} {x1 : Int32} {x6 : Int32} {x7 : Int32} {s0 : Int32} {s1 : Int32} {s2 : Int32} {e : dc_M} (hD : fb m0 m) (h : d_X10_readEvent_b368 82 x1 x6 x7 s0 s1 s2 (82 + 16) m = some e) : fb m0 e := by
  unfold d_X10_readEvent_b368 at h
  by_cases c1 : (Int32.toInt x1) = 0
  · rw [if_pos c1] at h
    cases h
    exact (fb_wi (fb_wi hD (by omega)) (by omega))
  · rw [if_neg c1] at h
    cases h
    exact (fb_wi (fb_wi hD (by omega)) (by omega))
theorem fb_X10_readEvent_b350 {m : dc_M} {m0 : dc_M} {x1 : Int32} {x6 : Int32} {x7 : Int32} {e : dc_M} (hD : fb m0 m) (h : d_X10_readEvent_b350 82 x1 x6 x7 m = some e) : fb m0 e := by
  unfold d_X10_readEvent_b350 at h
  by_cases c1 : (Int32.toInt x1) = 0
  · rw [if_pos c1] at h
    exact fb_X10_readEvent_b368  hD h
  · rw [if_neg c1] at h
    exact fb_X10_readEvent_b368  hD h
theorem fb_X10_readEvent_b338 {m : dc_M} {m0 : dc_M} {x1 : Int32} {x2 : Int32} {x6 : Int32} {x7 : Int32} {s0 : Int32} {e : dc_M} (hD : fb m0 m) (h : d_X10_readEvent_b338 82 x1 x2 x6 x7 s0 m = some e) : fb m0 e := by
  unfold d_X10_readEvent_b338 at h
  by_cases c1 : (Int32.toInt (s0 &&& x7)) = 0
  · rw [if_pos c1] at h
    exact fb_X10_readEvent_b350  hD h
  · rw [if_neg c1] at h
    have dq1 : fb m0 ((d_X10_failsAt 82 (5 : Int32) x2 m)) := fb_X10_failsAt hD
    generalize (d_X10_failsAt 82 (5 : Int32) x2 m) = q1 at h dq1
    rw [dc_let_eq] at h
    exact fb_X10_readEvent_b350  dq1 h
theorem fb_X10_readEvent_b309 {m : dc_M} {m0 : dc_M} {x1 : Int32} {x2 : Int32} {x6 : Int32} {e : dc_M} (hD : fb m0 m) (h : d_X10_readEvent_b309 82 x1 x2 x6 m = some e) : fb m0 e := by
  unfold d_X10_readEvent_b309 at h
  by_cases c1 : (Int32.toInt x1) = 0
  · rw [if_pos c1] at h
    exact fb_X10_readEvent_b338  hD h
  · rw [if_neg c1] at h
    exact fb_X10_readEvent_b338  hD h
theorem fb_X10_readEvent_b233 {m : dc_M} {m0 : dc_M} {x1 : Int32} {x2 : Int32} {x3 : Int32} {x4 : Int32} {x5 : Int32} {x6 : Int32} {e : dc_M} (hD : fb m0 m) (h : d_X10_readEvent_b233 82 x1 x2 x3 x4 x5 x6 m = some e) : fb m0 e := by
  unfold d_X10_readEvent_b233 at h
  by_cases c1 : ¬ (Int32.toInt x6) = 16
  · rw [if_pos c1] at h
    by_cases c2 : ¬ (Int32.toInt x6) = (Int32.toInt (m.1 82 24))
    · rw [if_pos c2] at h
      exact fb_X10_readEvent_b309  hD h
    · rw [if_neg c2] at h
      exact fb_X10_readEvent_b309  (fb_wi (fb_wi (fb_wi (fb_wi (fb_wi (fb_wi hD (by omega)) (by omega)) (by omega)) (by omega)) (by omega)) (by omega)) h
  · rw [if_neg c1] at h
    have dq1 : fb m0 ((d_X10_failsAt 82 (6 : Int32) x2 m)) := fb_X10_failsAt hD
    generalize (d_X10_failsAt 82 (6 : Int32) x2 m) = q1 at h dq1
    rw [dc_let_eq] at h
    cases h
    exact dq1
theorem fb_X10_readEvent_l183 {m : dc_M} {m0 : dc_M} {x1 : Int32} {x2 : Int32} {x3 : Int32} {x4 : Int32} {x5 : Int32} {x6 : Int32} {e : dc_M} (hD : fb m0 m) (h : d_X10_readEvent_l183 82 x1 x2 x3 x4 x5 x6 m = some e) : fb m0 e := by
  unfold d_X10_readEvent_l183 at h
  refine dc_lp_inv (fun s => fb m0 m) (fun e => fb m0 e) (fun s s' hI e1 => ?_) (fun s e' hI e1 => ?_) hD h
  · exact hI
  · unfold d_X10_readEvent_l183s d_X10_readEvent_l183b at e1
    by_cases c1 : (Int32.toInt (m.1 82 24)) ≤ (Int32.toInt s)
    · rw [if_pos c1] at e1
      cases hz : d_X10_readEvent_b233 82 x1 x2 x3 x4 x5 s m with
      | none => rw [hz] at e1; cases e1
      | some z =>
        rw [hz] at e1
        cases e1
        exact fb_X10_readEvent_b233  hI hz
    · rw [if_neg c1] at e1
      by_cases c2 : ¬ (Int32.toInt (m.1 (82 + 12) (Int32.toNatClampNeg s))) = (Int32.toInt x3)
      · rw [if_pos c2] at e1
        cases e1
      · rw [if_neg c2] at e1
        by_cases c3 : ¬ (Int32.toInt (m.1 (82 + 13) (Int32.toNatClampNeg s))) = (Int32.toInt x4)
        · rw [if_pos c3] at e1
          cases e1
        · rw [if_neg c3] at e1
          by_cases c4 : (Int32.toInt (m.1 (82 + 14) (Int32.toNatClampNeg s))) = (Int32.toInt x5)
          · rw [if_pos c4] at e1
            cases hz : d_X10_readEvent_b233 82 x1 x2 x3 x4 x5 s m with
            | none => rw [hz] at e1; cases e1
            | some z =>
              rw [hz] at e1
              cases e1
              exact fb_X10_readEvent_b233  hI hz
          · rw [if_neg c4] at e1
            cases e1
theorem fb_X10_readEvent_b172 {m : dc_M} {m0 : dc_M} {x1 : Int32} {x2 : Int32} {x3 : Int32} {x4 : Int32} {x5 : Int32} {e : dc_M} (hD : fb m0 m) (h : d_X10_readEvent_b172 82 x1 x2 x3 x4 x5 m = some e) : fb m0 e := by
  unfold d_X10_readEvent_b172 at h
  by_cases c1 : (Int32.toInt (m.1 82 15)) ≤ 0
  · rw [if_pos c1] at h
    exact fb_X10_readEvent_l183  hD h
  · rw [if_neg c1] at h
    cases h
    exact hD
theorem fb_X10_readEvent_b162 {m : dc_M} {m0 : dc_M} {x1 : Int32} {x2 : Int32} {x3 : Int32} {x4 : Int32} {e : dc_M} (hD : fb m0 m) (h : d_X10_readEvent_b162 82 x1 x2 x3 x4 m = some e) : fb m0 e := by
  unfold d_X10_readEvent_b162 at h
  cases hq1 : (d_X10_next 82 m) with
  | none => rw [hq1] at h; cases h
  | some q1 =>
    rw [hq1, Option.bind_some] at h
    have dq1 := fb_X10_next hD hq1
    exact fb_X10_readEvent_b172  dq1 h
theorem fb_X10_readEvent_b113 {m : dc_M} {m0 : dc_M} {x1 : Int32} {x2 : Int32} {x3 : Int32} {s0 : Int32} {e : dc_M} (hD : fb m0 m) (h : d_X10_readEvent_b113 82 x1 x2 x3 s0 m = some e) : fb m0 e := by
  unfold d_X10_readEvent_b113 at h
  cases hq1 : (d_X10_next 82 m) with
  | none => rw [hq1] at h; cases h
  | some q1 =>
    rw [hq1, Option.bind_some] at h
    have dq1 := fb_X10_next hD hq1
    by_cases c1 : ¬ (Int32.toInt (q1.1 82 15)) = 0
    · rw [if_pos c1] at h
      exact fb_X10_readEvent_b172  dq1 h
    · rw [if_neg c1] at h
      by_cases c2 : (Int32.toInt (d_X10_isSign 82 (47 : Int32) q1)) = 0
      · rw [if_pos c2] at h
        exact fb_X10_readEvent_b172  dq1 h
      · rw [if_neg c2] at h
        cases hq2 : (d_X10_next 82 q1) with
        | none => rw [hq2] at h; cases h
        | some q2 =>
          rw [hq2, Option.bind_some] at h
          have dq2 := fb_X10_next dq1 hq2
          by_cases c3 : ¬ (Int32.toInt (q2.1 82 15)) = 0
          · rw [if_pos c3] at h
            exact fb_X10_readEvent_b162  dq2 h
          · rw [if_neg c3] at h
            by_cases c4 : (Int32.toInt (q2.1 82 19)) = 2
            · rw [if_pos c4] at h
              exact fb_X10_readEvent_b162  dq2 h
            · rw [if_neg c4] at h
              have dq3 : fb m0 ((d_X10_fails 82 (2 : Int32) q2)) := fb_X10_fails dq2
              generalize (d_X10_fails 82 (2 : Int32) q2) = q3 at h dq3
              rw [dc_let_eq] at h
              exact fb_X10_readEvent_b162  dq3 h
theorem fb_X10_readEvent_b99 {m : dc_M} {m0 : dc_M} {x1 : Int32} {x2 : Int32} {x3 : Int32} {e : dc_M} (hD : fb m0 m) (h : d_X10_readEvent_b99 82 x1 x2 x3 m = some e) : fb m0 e := by
  unfold d_X10_readEvent_b99 at h
  by_cases c1 : (Int32.toInt (d_X10_isSign 82 (43 : Int32) m)) = 0
  · rw [if_pos c1] at h
    exact fb_X10_readEvent_b113  hD h
  · rw [if_neg c1] at h
    exact fb_X10_readEvent_b113  hD h
theorem fb_X10_readEvent_b65 {m : dc_M} {m0 : dc_M} {x1 : Int32} {x2 : Int32} {x3 : Int32} {e : dc_M} (hD : fb m0 m) (h : d_X10_readEvent_b65 82 x1 x2 x3 m = some e) : fb m0 e := by
  unfold d_X10_readEvent_b65 at h
  cases hq1 : (d_X10_next 82 m) with
  | none => rw [hq1] at h; cases h
  | some q1 =>
    rw [hq1, Option.bind_some] at h
    have dq1 := fb_X10_next hD hq1
    by_cases c1 : ¬ (Int32.toInt (q1.1 82 15)) = 0
    · rw [if_pos c1] at h
      exact fb_X10_readEvent_b99  dq1 h
    · rw [if_neg c1] at h
      by_cases c2 : ¬ (Int32.toInt (d_X10_isSign 82 (43 : Int32) q1)) = 0
      · rw [if_pos c2] at h
        exact fb_X10_readEvent_b99  dq1 h
      · rw [if_neg c2] at h
        by_cases c3 : ¬ (Int32.toInt (d_X10_isSign 82 (45 : Int32) q1)) = 0
        · rw [if_pos c3] at h
          exact fb_X10_readEvent_b99  dq1 h
        · rw [if_neg c3] at h
          have dq2 : fb m0 ((d_X10_fails 82 (2 : Int32) q1)) := fb_X10_fails dq1
          generalize (d_X10_fails 82 (2 : Int32) q1) = q2 at h dq2
          rw [dc_let_eq] at h
          exact fb_X10_readEvent_b99  dq2 h
theorem fb_X10_readEvent_b46 {m : dc_M} {m0 : dc_M} {x1 : Int32} {x2 : Int32} {s0 : Int32} {e : dc_M} (hD : fb m0 m) (h : d_X10_readEvent_b46 82 x1 x2 s0 m = some e) : fb m0 e := by
  unfold d_X10_readEvent_b46 at h
  by_cases c1 : ¬ (Int32.toInt (m.1 82 15)) = 0
  · rw [if_pos c1] at h
    exact fb_X10_readEvent_b65  hD h
  · rw [if_neg c1] at h
    by_cases c2 : ¬ (Int32.toInt s0) = (-4)
    · rw [if_pos c2] at h
      exact fb_X10_readEvent_b65  hD h
    · rw [if_neg c2] at h
      have dq1 : fb m0 ((d_X10_fails 82 (4 : Int32) m)) := fb_X10_fails hD
      generalize (d_X10_fails 82 (4 : Int32) m) = q1 at h dq1
      rw [dc_let_eq] at h
      exact fb_X10_readEvent_b65  dq1 h
theorem fb_X10_readEvent_b24 {m : dc_M} {m0 : dc_M} {x1 : Int32} {x2 : Int32} {e : dc_M} (hD : fb m0 m) (h : d_X10_readEvent_b24 82 x1 x2 m = some e) : fb m0 e := by
  unfold d_X10_readEvent_b24 at h
  by_cases c1 : ¬ (Int32.toInt (m.1 82 15)) = 0
  · rw [if_pos c1] at h
    exact fb_X10_readEvent_b46  hD h
  · rw [if_neg c1] at h
    cases hq1 : (d_X10_wireAt 82 ((m.1 82 20) - (1 : Int32)) m) with
    | none => rw [hq1] at h; cases h
    | some q1 =>
      rw [hq1, Option.bind_some] at h
      exact fb_X10_readEvent_b46  hD h
theorem fb_X10_readEvent {m : dc_M} {m0 : dc_M} {x1 : Int32} {e : dc_M} (hD : fb m0 m) (h : d_X10_readEvent 82 x1 m = some e) : fb m0 e := by
  unfold d_X10_readEvent at h
  by_cases c1 : ¬ (Int32.toInt (m.1 82 15)) = 0
  · rw [if_pos c1] at h
    exact fb_X10_readEvent_b24  hD h
  · rw [if_neg c1] at h
    by_cases c2 : ¬ (Int32.toInt (d_X10_isLetter 82 m)) = 0
    · rw [if_pos c2] at h
      exact fb_X10_readEvent_b24  hD h
    · rw [if_neg c2] at h
      have dq1 : fb m0 ((d_X10_fails 82 (2 : Int32) m)) := fb_X10_fails hD
      generalize (d_X10_fails 82 (2 : Int32) m) = q1 at h dq1
      rw [dc_let_eq] at h
      exact fb_X10_readEvent_b24  dq1 h
theorem fb_X10_readPlace_b132 {m : dc_M} {m0 : dc_M}  {s0 : Int32} {s1 : Int32} {e : dc_M} (hD : fb m0 m) (h : d_X10_readPlace_b132 82 s0 s1 82 m = some e) : fb m0 e := by
  unfold d_X10_readPlace_b132 at h
  cases hq1 : (d_X10_next 82 (dc_wi m 82 31 (s1 ||| s0))) with
  | none => rw [hq1] at h; cases h
  | some q1 =>
    rw [hq1, Option.bind_some] at h
    have dq1 := fb_X10_next (fb_wi hD (by omega)) hq1
    by_cases c1 : ¬ (Int32.toInt (q1.1 82 15)) = 0
    · rw [if_pos c1] at h
      cases h
      exact dq1
    · rw [if_neg c1] at h
      cases h
      exact (fb_wi dq1 (by omega))
theorem fb_X10_readPlace_b102 {m : dc_M} {m0 : dc_M}  {e : dc_M} (hD : fb m0 m) (h : d_X10_readPlace_b102 82 m = some e) : fb m0 e := by
  unfold d_X10_readPlace_b102 at h
  by_cases c1 : ¬ (Int32.toInt (m.1 82 15)) = 0
  · rw [if_pos c1] at h
    exact fb_X10_readPlace_b132  hD h
  · rw [if_neg c1] at h
    by_cases c2 : ¬ (Int32.toInt (m.1 82 20)) = 1
    · rw [if_pos c2] at h
      exact fb_X10_readPlace_b132  hD h
    · rw [if_neg c2] at h
      exact fb_X10_readPlace_b132  hD h
theorem fb_X10_readPlace_b82 {m : dc_M} {m0 : dc_M}  {e : dc_M} (hD : fb m0 m) (h : d_X10_readPlace_b82 82 m = some e) : fb m0 e := by
  unfold d_X10_readPlace_b82 at h
  by_cases c1 : ¬ (Int32.toInt (m.1 82 15)) = 0
  · rw [if_pos c1] at h
    exact fb_X10_readPlace_b102  hD h
  · rw [if_neg c1] at h
    by_cases c2 : (Int32.toInt (m.1 82 20)) ≤ 1
    · rw [if_pos c2] at h
      exact fb_X10_readPlace_b102  hD h
    · rw [if_neg c2] at h
      have dq1 : fb m0 ((d_X10_fails 82 (3 : Int32) m)) := fb_X10_fails hD
      generalize (d_X10_fails 82 (3 : Int32) m) = q1 at h dq1
      rw [dc_let_eq] at h
      exact fb_X10_readPlace_b102  dq1 h
theorem fb_X10_readPlace_l49 {m : dc_M} {m0 : dc_M} {x1 : Int32} {e : dc_M} (hD : fb m0 m) (h : d_X10_readPlace_l49 82 x1 m = some e) : fb m0 e := by
  unfold d_X10_readPlace_l49 at h
  refine dc_lp_inv (fun s => fb m0 s.2) (fun e => fb m0 e) (fun s s' hI e1 => ?_) (fun s e' hI e1 => ?_) hD h
  · unfold d_X10_readPlace_l49s d_X10_readPlace_l49b at e1
    by_cases c1 : ¬ (Int32.toInt (s.2.1 82 15)) = 0
    · rw [if_pos c1] at e1
      cases hz : d_X10_readPlace_b82 82 s.2 with
      | none => rw [hz] at e1; cases e1
      | some z =>
        rw [hz] at e1
        cases e1
    · rw [if_neg c1] at e1
      by_cases c2 : (Int32.toInt s.1) = 0
      · rw [if_pos c2] at e1
        cases hz : d_X10_readPlace_b82 82 s.2 with
        | none => rw [hz] at e1; cases e1
        | some z =>
          rw [hz] at e1
          cases e1
      · rw [if_neg c2] at e1
        cases hq1 : (d_X10_readEvent 82 (0 : Int32) s.2) with
        | none => rw [hq1] at e1; cases e1
        | some q1 =>
          rw [hq1, Option.bind_some] at e1
          have dq1 := fb_X10_readEvent hI hq1
          by_cases c3 : (Int32.toInt (q1.1 82 19)) = 2
          · rw [if_pos c3] at e1
            cases e1
            exact dq1
          · rw [if_neg c3] at e1
            cases e1
            exact dq1
  · unfold d_X10_readPlace_l49s d_X10_readPlace_l49b at e1
    by_cases c1 : ¬ (Int32.toInt (s.2.1 82 15)) = 0
    · rw [if_pos c1] at e1
      cases hz : d_X10_readPlace_b82 82 s.2 with
      | none => rw [hz] at e1; cases e1
      | some z =>
        rw [hz] at e1
        cases e1
        exact fb_X10_readPlace_b82  hI hz
    · rw [if_neg c1] at e1
      by_cases c2 : (Int32.toInt s.1) = 0
      · rw [if_pos c2] at e1
        cases hz : d_X10_readPlace_b82 82 s.2 with
        | none => rw [hz] at e1; cases e1
        | some z =>
          rw [hz] at e1
          cases e1
          exact fb_X10_readPlace_b82  hI hz
      · rw [if_neg c2] at e1
        cases hq1 : (d_X10_readEvent 82 (0 : Int32) s.2) with
        | none => rw [hq1] at e1; cases e1
        | some q1 =>
          rw [hq1, Option.bind_some] at e1
          have dq1 := fb_X10_readEvent hI hq1
          by_cases c3 : (Int32.toInt (q1.1 82 19)) = 2
          · rw [if_pos c3] at e1
            cases e1
          · rw [if_neg c3] at e1
            cases e1
theorem fb_X10_readPlace_b43 {m : dc_M} {m0 : dc_M}  {e : dc_M} (hD : fb m0 m) (h : d_X10_readPlace_b43 82 m = some e) : fb m0 e := by
  unfold d_X10_readPlace_b43 at h
  cases hq1 : (d_X10_next 82 m) with
  | none => rw [hq1] at h; cases h
  | some q1 =>
    rw [hq1, Option.bind_some] at h
    have dq1 := fb_X10_next hD hq1
    exact fb_X10_readPlace_l49  dq1 h
theorem fb_X10_readPlace_l19 {m : dc_M} {m0 : dc_M}  {e : dc_M} (hD : fb m0 m) (h : d_X10_readPlace_l19 82 m = some e) : fb m0 e := by
  unfold d_X10_readPlace_l19 at h
  refine dc_lp_inv (fun s => fb m0 s) (fun e => fb m0 e) (fun s s' hI e1 => ?_) (fun s e' hI e1 => ?_) hD h
  · unfold d_X10_readPlace_l19s d_X10_readPlace_l19b at e1
    by_cases c1 : ¬ (Int32.toInt (s.1 82 15)) = 0
    · rw [if_pos c1] at e1
      cases hz : d_X10_readPlace_b43 82 s with
      | none => rw [hz] at e1; cases e1
      | some z =>
        rw [hz] at e1
        cases e1
    · rw [if_neg c1] at e1
      by_cases c2 : ¬ (Int32.toInt (d_X10_isSign 82 (62 : Int32) s)) = 0
      · rw [if_pos c2] at e1
        cases hz : d_X10_readPlace_b43 82 s with
        | none => rw [hz] at e1; cases e1
        | some z =>
          rw [hz] at e1
          cases e1
      · rw [if_neg c2] at e1
        cases hq1 : (d_X10_readEvent 82 (1 : Int32) s) with
        | none => rw [hq1] at e1; cases e1
        | some q1 =>
          rw [hq1, Option.bind_some] at e1
          have dq1 := fb_X10_readEvent hI hq1
          cases e1
          exact dq1
  · unfold d_X10_readPlace_l19s d_X10_readPlace_l19b at e1
    by_cases c1 : ¬ (Int32.toInt (s.1 82 15)) = 0
    · rw [if_pos c1] at e1
      cases hz : d_X10_readPlace_b43 82 s with
      | none => rw [hz] at e1; cases e1
      | some z =>
        rw [hz] at e1
        cases e1
        exact fb_X10_readPlace_b43  hI hz
    · rw [if_neg c1] at e1
      by_cases c2 : ¬ (Int32.toInt (d_X10_isSign 82 (62 : Int32) s)) = 0
      · rw [if_pos c2] at e1
        cases hz : d_X10_readPlace_b43 82 s with
        | none => rw [hz] at e1; cases e1
        | some z =>
          rw [hz] at e1
          cases e1
          exact fb_X10_readPlace_b43  hI hz
      · rw [if_neg c2] at e1
        cases hq1 : (d_X10_readEvent 82 (1 : Int32) s) with
        | none => rw [hq1] at e1; cases e1
        | some q1 =>
          rw [hq1, Option.bind_some] at e1
          have dq1 := fb_X10_readEvent hI hq1
          cases e1
theorem fb_X10_readPlace_b15 {m : dc_M} {m0 : dc_M}  {e : dc_M} (hD : fb m0 m) (h : d_X10_readPlace_b15 82 m = some e) : fb m0 e := by
  unfold d_X10_readPlace_b15 at h
  cases hq1 : (d_X10_next 82 m) with
  | none => rw [hq1] at h; cases h
  | some q1 =>
    rw [hq1, Option.bind_some] at h
    have dq1 := fb_X10_next hD hq1
    exact fb_X10_readPlace_l19  dq1 h
theorem fb_X10_readPlace {m : dc_M} {m0 : dc_M}  {e : dc_M} (hD : fb m0 m) (h : d_X10_readPlace 82 m = some e) : fb m0 e := by
  unfold d_X10_readPlace at h
  by_cases c1 : ¬ (Int32.toInt (m.1 82 30)) = 20
  · rw [if_pos c1] at h
    exact fb_X10_readPlace_b15  hD h
  · rw [if_neg c1] at h
    have dq1 : fb m0 ((d_X10_fails 82 (6 : Int32) m)) := fb_X10_fails hD
    generalize (d_X10_fails 82 (6 : Int32) m) = q1 at h dq1
    rw [dc_let_eq] at h
    exact fb_X10_readPlace_b15  dq1 h
theorem fb_X10_readWire_b68 {m : dc_M} {m0 : dc_M} {x1 : Int32} {e : dc_M} (hD : fb m0 m) (h : d_X10_readWire_b68 82 x1 m = some e) : fb m0 e := by
  unfold d_X10_readWire_b68 at h
  by_cases c1 : (Int32.toInt (m.1 82 15)) ≤ 0
  · rw [if_pos c1] at h
    cases hq1 : (d_X10_next 82 (dc_wi (dc_wi (dc_wi m (82 + 10) (Int32.toNatClampNeg (m.1 82 21)) ((m.1 82 20) - (1 : Int32))) (82 + 11) (Int32.toNatClampNeg ((dc_wi m (82 + 10) (Int32.toNatClampNeg (m.1 82 21)) ((m.1 82 20) - (1 : Int32))).1 82 21)) x1) 82 21 (((dc_wi (dc_wi m (82 + 10) (Int32.toNatClampNeg (m.1 82 21)) ((m.1 82 20) - (1 : Int32))) (82 + 11) (Int32.toNatClampNeg ((dc_wi m (82 + 10) (Int32.toNatClampNeg (m.1 82 21)) ((m.1 82 20) - (1 : Int32))).1 82 21)) x1).1 82 21) + (1 : Int32)))) with
    | none => rw [hq1] at h; cases h
    | some q1 =>
      rw [hq1, Option.bind_some] at h
      have dq1 := fb_X10_next (fb_wi (fb_wi (fb_wi hD (by omega)) (by omega)) (by omega)) hq1
      cases h
      exact dq1
  · rw [if_neg c1] at h
    cases h
    exact hD
theorem fb_X10_readWire_b41 {m : dc_M} {m0 : dc_M} {x1 : Int32} {e : dc_M} (hD : fb m0 m) (h : d_X10_readWire_b41 82 x1 m = some e) : fb m0 e := by
  unfold d_X10_readWire_b41 at h
  by_cases c1 : ¬ (Int32.toInt (m.1 82 15)) = 0
  · rw [if_pos c1] at h
    exact fb_X10_readWire_b68  hD h
  · rw [if_neg c1] at h
    cases hq1 : (d_X10_wireAt 82 ((m.1 82 20) - (1 : Int32)) m) with
    | none => rw [hq1] at h; cases h
    | some q1 =>
      rw [hq1, Option.bind_some] at h
      by_cases c2 : (Int32.toInt q1) = (-4)
      · rw [if_pos c2] at h
        exact fb_X10_readWire_b68  hD h
      · rw [if_neg c2] at h
        have dq2 : fb m0 ((d_X10_fails 82 (4 : Int32) m)) := fb_X10_fails hD
        generalize (d_X10_fails 82 (4 : Int32) m) = q2 at h dq2
        rw [dc_let_eq] at h
        exact fb_X10_readWire_b68  dq2 h
theorem fb_X10_readWire_b15 {m : dc_M} {m0 : dc_M} {x1 : Int32} {e : dc_M} (hD : fb m0 m) (h : d_X10_readWire_b15 82 x1 m = some e) : fb m0 e := by
  unfold d_X10_readWire_b15 at h
  cases hq1 : (d_X10_next 82 m) with
  | none => rw [hq1] at h; cases h
  | some q1 =>
    rw [hq1, Option.bind_some] at h
    have dq1 := fb_X10_next hD hq1
    by_cases c1 : ¬ (Int32.toInt (q1.1 82 15)) = 0
    · rw [if_pos c1] at h
      exact fb_X10_readWire_b41  dq1 h
    · rw [if_neg c1] at h
      by_cases c2 : ¬ (Int32.toInt (d_X10_isLetter 82 q1)) = 0
      · rw [if_pos c2] at h
        exact fb_X10_readWire_b41  dq1 h
      · rw [if_neg c2] at h
        have dq2 : fb m0 ((d_X10_fails 82 (2 : Int32) q1)) := fb_X10_fails dq1
        generalize (d_X10_fails 82 (2 : Int32) q1) = q2 at h dq2
        rw [dc_let_eq] at h
        exact fb_X10_readWire_b68  dq2 h
theorem fb_X10_readWire {m : dc_M} {m0 : dc_M} {x1 : Int32} {e : dc_M} (hD : fb m0 m) (h : d_X10_readWire 82 x1 m = some e) : fb m0 e := by
  unfold d_X10_readWire at h
  by_cases c1 : ¬ (Int32.toInt (m.1 82 21)) = 6
  · rw [if_pos c1] at h
    exact fb_X10_readWire_b15  hD h
  · rw [if_neg c1] at h
    have dq1 : fb m0 ((d_X10_fails 82 (6 : Int32) m)) := fb_X10_fails hD
    generalize (d_X10_fails 82 (6 : Int32) m) = q1 at h dq1
    rw [dc_let_eq] at h
    exact fb_X10_readWire_b15  dq1 h
theorem fb_X10_readLine_b129 {m : dc_M} {m0 : dc_M}  {e : dc_M} (hD : fb m0 m) (h : d_X10_readLine_b129 82 m = some e) : fb m0 e := by
  unfold d_X10_readLine_b129 at h
  cases hq1 : (d_X10_next 82 m) with
  | none => rw [hq1] at h; cases h
  | some q1 =>
    rw [hq1, Option.bind_some] at h
    have dq1 := fb_X10_next hD hq1
    cases h
    exact dq1
theorem fb_X10_readLine_b108 {m : dc_M} {m0 : dc_M}  {e : dc_M} (hD : fb m0 m) (h : d_X10_readLine_b108 82 m = some e) : fb m0 e := by
  unfold d_X10_readLine_b108 at h
  by_cases c1 : ¬ (Int32.toInt (m.1 82 15)) = 0
  · rw [if_pos c1] at h
    exact fb_X10_readLine_b129  hD h
  · rw [if_neg c1] at h
    by_cases c2 : ¬ (Int32.toInt (d_X10_isSign 82 (59 : Int32) m)) = 0
    · rw [if_pos c2] at h
      exact fb_X10_readLine_b129  hD h
    · rw [if_neg c2] at h
      have dq1 : fb m0 ((d_X10_fails 82 (2 : Int32) m)) := fb_X10_fails hD
      generalize (d_X10_fails 82 (2 : Int32) m) = q1 at h dq1
      rw [dc_let_eq] at h
      exact fb_X10_readLine_b129  dq1 h
theorem fb_X10_readLine_b97 {m : dc_M} {m0 : dc_M}  {s0 : Int32} {e : dc_M} (hD : fb m0 m) (h : d_X10_readLine_b97 82 s0 82 m = some e) : fb m0 e := by
  unfold d_X10_readLine_b97 at h
  cases hq1 : (d_X10_readWire 82 s0 m) with
  | none => rw [hq1] at h; cases h
  | some q1 =>
    rw [hq1, Option.bind_some] at h
    have dq1 := fb_X10_readWire hD hq1
    exact fb_X10_readLine_b108  dq1 h
theorem fb_X10_readLine_b67 {m : dc_M} {m0 : dc_M}  {e : dc_M} (hD : fb m0 m) (h : d_X10_readLine_b67 82 m = some e) : fb m0 e := by
  unfold d_X10_readLine_b67 at h
  by_cases c1 : ¬ (Int32.toInt (m.1 82 20)) = 302
  · rw [if_pos c1] at h
    by_cases c2 : ¬ (Int32.toInt (m.1 82 20)) = 16052
    · rw [if_pos c2] at h
      exact fb_X10_readLine_b97  hD h
    · rw [if_neg c2] at h
      exact fb_X10_readLine_b97  hD h
  · rw [if_neg c1] at h
    exact fb_X10_readLine_b97  hD h
theorem fb_X10_readLine_b34 {m : dc_M} {m0 : dc_M} {x1 : Int32} {e : dc_M} (hD : fb m0 m) (h : d_X10_readLine_b34 82 x1 m = some e) : fb m0 e := by
  unfold d_X10_readLine_b34 at h
  by_cases c1 : (Int32.toInt x1) = 0
  · rw [if_pos c1] at h
    have dq1 : fb m0 ((d_X10_fails 82 (2 : Int32) m)) := fb_X10_fails hD
    generalize (d_X10_fails 82 (2 : Int32) m) = q1 at h dq1
    rw [dc_let_eq] at h
    exact fb_X10_readLine_b108  dq1 h
  · rw [if_neg c1] at h
    by_cases c2 : (Int32.toInt (m.1 82 20)) = 302
    · rw [if_pos c2] at h
      exact fb_X10_readLine_b67  hD h
    · rw [if_neg c2] at h
      by_cases c3 : (Int32.toInt (m.1 82 20)) = 16052
      · rw [if_pos c3] at h
        exact fb_X10_readLine_b67  hD h
      · rw [if_neg c3] at h
        by_cases c4 : ¬ (Int32.toInt (m.1 82 20)) = 9910450
        · rw [if_pos c4] at h
          have dq2 : fb m0 ((d_X10_fails 82 (2 : Int32) m)) := fb_X10_fails hD
          generalize (d_X10_fails 82 (2 : Int32) m) = q2 at h dq2
          rw [dc_let_eq] at h
          exact fb_X10_readLine_b108  dq2 h
        · rw [if_neg c4] at h
          exact fb_X10_readLine_b67  hD h
theorem fb_X10_readLine_b13 {m : dc_M} {m0 : dc_M}  {s0 : Int32} {e : dc_M} (hD : fb m0 m) (h : d_X10_readLine_b13 82 s0 m = some e) : fb m0 e := by
  unfold d_X10_readLine_b13 at h
  by_cases c1 : (Int32.toInt s0) = 0
  · rw [if_pos c1] at h
    exact fb_X10_readLine_b34  hD h
  · rw [if_neg c1] at h
    by_cases c2 : ¬ (Int32.toInt (m.1 82 20)) = 17171557
    · rw [if_pos c2] at h
      exact fb_X10_readLine_b34  hD h
    · rw [if_neg c2] at h
      cases hq1 : (d_X10_readPlace 82 m) with
      | none => rw [hq1] at h; cases h
      | some q1 =>
        rw [hq1, Option.bind_some] at h
        have dq1 := fb_X10_readPlace hD hq1
        exact fb_X10_readLine_b108  dq1 h
theorem fb_X10_readLine {m : dc_M} {m0 : dc_M}  {e : dc_M} (hD : fb m0 m) (h : d_X10_readLine 82 m = some e) : fb m0 e := by
  unfold d_X10_readLine at h
  by_cases c1 : ¬ (Int32.toInt (m.1 82 19)) = 1
  · rw [if_pos c1] at h
    exact fb_X10_readLine_b13  hD h
  · rw [if_neg c1] at h
    exact fb_X10_readLine_b13  hD h
