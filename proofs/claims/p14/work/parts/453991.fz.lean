/-! ===== what finding leaves alone (written by a program) ===== -/
theorem fz_J7_fill_53178_l5 {m : dc_M} {a b : Nat} {c0 : dc_M} {x0 : Nat} {x1 : Int32} {x2 : Int32} {x3 : Int32} {e : dc_M} (hx : (a = 41 ∧ b = 52) ∨ (a = 52 ∧ b = 41) → ∀ k, fzc a b x0 k) (hD : FZ a b c0 m) (h : d_J7_fill_53178_l5 x0 x1 x3 x2 m = some e) : FZ a b c0 e := by
  unfold d_J7_fill_53178_l5 at h
  refine dc_lp_inv (fun s => FZ a b c0 (s.2)) (fun e => FZ a b c0 e) (fun s s' hI e1 => ?_) (fun s e' hI e1 => ?_) hD h
  · unfold d_J7_fill_53178_l5s d_J7_fill_53178_l5b at e1
    by_cases c1 : (Int32.toInt x3) ≤ (Int32.toInt s.1)
    · rw [if_pos c1] at e1
      cases e1
    · rw [if_neg c1] at e1
      cases e1
      exact (fz_wi hI (fun q => by first | exact hx q _ | (unfold fzc; omega)))
  · unfold d_J7_fill_53178_l5s d_J7_fill_53178_l5b at e1
    by_cases c1 : (Int32.toInt x3) ≤ (Int32.toInt s.1)
    · rw [if_pos c1] at e1
      cases e1
      exact hI
    · rw [if_neg c1] at e1
      cases e1
theorem fz_J7_fill_53178 {m : dc_M} {a b : Nat} {c0 : dc_M} {x0 : Nat} {x1 : Int32} {e : dc_M} (hx : (a = 41 ∧ b = 52) ∨ (a = 52 ∧ b = 41) → ∀ k, fzc a b x0 k) (hD : FZ a b c0 m) (h : d_J7_fill_53178 x0 x1 m = some e) : FZ a b c0 e := by
  unfold d_J7_fill_53178 at h
  exact fz_J7_fill_53178_l5 hx hD h
theorem fz_X0_addQuarrel {m : dc_M} {a b : Nat} {c0 : dc_M} {x0 : Nat} {x1 : Int32} {x2 : Int32} (hx : x0 = 12) (hD : FZ a b c0 m) : FZ a b c0 ((d_X0_addQuarrel x0 x1 x2 m)) := by
  unfold d_X0_addQuarrel
  by_cases c1 : (Int32.toInt (m.1 x0 1)) = 0
  · rw [if_pos c1]
    exact (fz_wi (fz_wi (fz_wi hD (fun q => by first | exact hx q _ | (unfold fzc; omega))) (fun q => by first | exact hx q _ | (unfold fzc; omega))) (fun q => by first | exact hx q _ | (unfold fzc; omega)))
  · rw [if_neg c1]
    by_cases c2 : (Int32.toInt (m.1 x0 2)) ≤ (Int32.toInt x1)
    · rw [if_pos c2]
      exact (fz_wi hD (fun q => by first | exact hx q _ | (unfold fzc; omega)))
    · rw [if_neg c2]
      exact (fz_wi (fz_wi (fz_wi hD (fun q => by first | exact hx q _ | (unfold fzc; omega))) (fun q => by first | exact hx q _ | (unfold fzc; omega))) (fun q => by first | exact hx q _ | (unfold fzc; omega)))
theorem fz_X0_findQuarrels_b128 {m : dc_M} {a b : Nat} {c0 : dc_M} {x0 : Nat} {x1 : Int32} {x2 : Nat} {x3 : Int32} {x4 : Int32} {u : ((Int32 × dc_M) ⊕ dc_M)} (hx : x0 = 12) (hD : FZ a b c0 m) (h : d_X0_findQuarrels_b128 x0 x1 x2 x3 x4 m = some u) : (∀ s', u = .inl s' → FZ a b c0 (s'.2)) ∧ (∀ e, u = .inr e → FZ a b c0 e) := by
  unfold d_X0_findQuarrels_b128 at h
  cases h
  exact ⟨fun _ q => (by cases q; exact (fz_wi (fz_wi hD (fun q => by unfold fzc; omega)) (fun q => by unfold fzc; omega))), fun _ q => (by cases q)⟩
theorem fz_X0_findQuarrels_l64 {m : dc_M} {a b : Nat} {c0 : dc_M} {x0 : Nat} {x1 : Int32} {x2 : Nat} {x3 : Int32} {x4 : Int32} {x5 : Int32} {x6 : Int32} {u : ((Int32 × dc_M) ⊕ dc_M)} (hx : x0 = 12) (hD : FZ a b c0 m) (h : d_X0_findQuarrels_l64 x0 x1 x2 x3 x4 x5 x6 m = some u) : (∀ s', u = .inl s' → FZ a b c0 (s'.2)) ∧ (∀ e, u = .inr e → FZ a b c0 e) := by
  unfold d_X0_findQuarrels_l64 at h
  refine dc_lp_inv (fun s => FZ a b c0 (s.2.2)) (fun u => (∀ s', u = .inl s' → FZ a b c0 (s'.2)) ∧ (∀ e, u = .inr e → FZ a b c0 e)) (fun s s' hI e1 => ?_) (fun s e' hI e1 => ?_) hD h
  · unfold d_X0_findQuarrels_l64s d_X0_findQuarrels_l64b at e1
    by_cases c1 : 200 ≤ (Int32.toInt s.2.1)
    · rw [if_pos c1] at e1
      cases hz : d_X0_findQuarrels_b128 x0 x1 x2 x3 x4 s.2.2 with
      | none => rw [hz] at e1; cases e1
      | some z =>
        rw [hz] at e1
        cases e1
    · rw [if_neg c1] at e1
      by_cases c2 : (Int32.toInt s.1) < 0
      · rw [if_pos c2] at e1
        cases hz : d_X0_findQuarrels_b128 x0 x1 x2 x3 x4 s.2.2 with
        | none => rw [hz] at e1; cases e1
        | some z =>
          rw [hz] at e1
          cases e1
      · rw [if_neg c2] at e1
        by_cases c3 : (Int32.toInt ((((dc_wi s.2.2 x0 0 ((s.2.2.1 x0 0) + (1 : Int32))).1 (x2 + 4) (Int32.toNatClampNeg x3)) ^^^ ((dc_wi s.2.2 x0 0 ((s.2.2.1 x0 0) + (1 : Int32))).1 (x2 + 4) (Int32.toNatClampNeg s.1))) &&& x1)) = 0
        · rw [if_pos c3] at e1
          cases e1
          exact (fz_wi hI (fun q => by first | exact hx q _ | (unfold fzc; omega)))
        · rw [if_neg c3] at e1
          have dq1 : FZ a b c0 ((d_X0_addQuarrel x0 s.1 x3 (dc_wi s.2.2 x0 0 ((s.2.2.1 x0 0) + (1 : Int32))))) := fz_X0_addQuarrel hx (fz_wi hI (fun q => by first | exact hx q _ | (unfold fzc; omega)))
          generalize (d_X0_addQuarrel x0 s.1 x3 (dc_wi s.2.2 x0 0 ((s.2.2.1 x0 0) + (1 : Int32)))) = q1 at e1 dq1
          rw [dc_let_eq] at e1
          cases e1
          exact dq1
  · unfold d_X0_findQuarrels_l64s d_X0_findQuarrels_l64b at e1
    by_cases c1 : 200 ≤ (Int32.toInt s.2.1)
    · rw [if_pos c1] at e1
      cases hz : d_X0_findQuarrels_b128 x0 x1 x2 x3 x4 s.2.2 with
      | none => rw [hz] at e1; cases e1
      | some z =>
        rw [hz] at e1
        cases e1
        exact fz_X0_findQuarrels_b128 hx hI hz
    · rw [if_neg c1] at e1
      by_cases c2 : (Int32.toInt s.1) < 0
      · rw [if_pos c2] at e1
        cases hz : d_X0_findQuarrels_b128 x0 x1 x2 x3 x4 s.2.2 with
        | none => rw [hz] at e1; cases e1
        | some z =>
          rw [hz] at e1
          cases e1
          exact fz_X0_findQuarrels_b128 hx hI hz
      · rw [if_neg c2] at e1
        by_cases c3 : (Int32.toInt ((((dc_wi s.2.2 x0 0 ((s.2.2.1 x0 0) + (1 : Int32))).1 (x2 + 4) (Int32.toNatClampNeg x3)) ^^^ ((dc_wi s.2.2 x0 0 ((s.2.2.1 x0 0) + (1 : Int32))).1 (x2 + 4) (Int32.toNatClampNeg s.1))) &&& x1)) = 0
        · rw [if_pos c3] at e1
          cases e1
        · rw [if_neg c3] at e1
          have dq1 : FZ a b c0 ((d_X0_addQuarrel x0 s.1 x3 (dc_wi s.2.2 x0 0 ((s.2.2.1 x0 0) + (1 : Int32))))) := fz_X0_addQuarrel hx (fz_wi hI (fun q => by first | exact hx q _ | (unfold fzc; omega)))
          generalize (d_X0_addQuarrel x0 s.1 x3 (dc_wi s.2.2 x0 0 ((s.2.2.1 x0 0) + (1 : Int32)))) = q1 at e1 dq1
          rw [dc_let_eq] at e1
          cases e1
theorem fz_X0_findQuarrels_l33 {m : dc_M} {a b : Nat} {c0 : dc_M} {x0 : Nat} {x1 : Int32} {x2 : Nat} {x3 : Int32} {e : dc_M} (hx : x0 = 12) (hD : FZ a b c0 m) (h : d_X0_findQuarrels_l33 x0 x1 x2 x3 m = some e) : FZ a b c0 e := by
  unfold d_X0_findQuarrels_l33 at h
  refine dc_lp_inv (fun s => FZ a b c0 (s.2)) (fun e => FZ a b c0 e) (fun s s' hI e1 => ?_) (fun s e' hI e1 => ?_) hD h
  · unfold d_X0_findQuarrels_l33s d_X0_findQuarrels_l33b at e1
    by_cases c1 : (Int32.toInt (s.2.1 x2 0)) ≤ (Int32.toInt s.1)
    · rw [if_pos c1] at e1
      cases e1
    · rw [if_neg c1] at e1
      exact (fz_X0_findQuarrels_l64 hx hI e1).1 _ rfl
  · unfold d_X0_findQuarrels_l33s d_X0_findQuarrels_l33b at e1
    by_cases c1 : (Int32.toInt (s.2.1 x2 0)) ≤ (Int32.toInt s.1)
    · rw [if_pos c1] at e1
      cases e1
      exact hI
    · rw [if_neg c1] at e1
      exact (fz_X0_findQuarrels_l64 hx hI e1).2 _ rfl
theorem fz_X0_findQuarrels {m : dc_M} {a b : Nat} {c0 : dc_M} {x0 : Nat} {x1 : Int32} {x2 : Nat} {e : dc_M} (hx : x0 = 12) (hD : FZ a b c0 m) (h : d_X0_findQuarrels x0 x1 x2 m = some e) : FZ a b c0 e := by
  unfold d_X0_findQuarrels at h
  cases hq1 : (d_J7_fill_53178 (x0 + 1) (-4 : Int32) (dc_wi (dc_wi (dc_wi (dc_wi m x0 0 (0 : Int32)) x0 1 (0 : Int32)) x0 2 (-4 : Int32)) x0 3 (-4 : Int32))) with
  | none => rw [hq1] at h; cases h
  | some q1 =>
    rw [hq1, Option.bind_some] at h
    have dq1 := fz_J7_fill_53178 (fun q k => by unfold fzc; omega) (fz_wi (fz_wi (fz_wi (fz_wi hD (fun q => by first | exact hx q _ | (unfold fzc; omega))) (fun q => by first | exact hx q _ | (unfold fzc; omega))) (fun q => by first | exact hx q _ | (unfold fzc; omega))) (fun q => by first | exact hx q _ | (unfold fzc; omega))) hq1
    exact fz_X0_findQuarrels_l33 hx dq1 h
theorem fz_X0_addTakenBack_b63 {m : dc_M} {a b : Nat} {c0 : dc_M} {x0 : Nat} {x1 : Nat} {x2 : Int32} {x3 : Int32} {x4 : Int32} {x5 : Int32} {x6 : Int32} {u : ((Int32 × dc_M) ⊕ dc_M)} (hx : x0 = 12) (hD : FZ a b c0 m) (h : d_X0_addTakenBack_b63 x0 x1 x2 x3 x4 x5 x6 m = some u) : (∀ s', u = .inl s' → FZ a b c0 (s'.2)) ∧ (∀ e, u = .inr e → FZ a b c0 e) := by
  unfold d_X0_addTakenBack_b63 at h
  cases h
  exact ⟨fun _ q => (by cases q; exact (fz_wi (fz_wi (fz_wi (fz_wi hD (fun q => by first | exact hx q _ | (unfold fzc; omega))) (fun q => by first | exact hx q _ | (unfold fzc; omega))) (fun q => by first | exact hx q _ | (unfold fzc; omega))) (fun q => by first | exact hx q _ | (unfold fzc; omega)))), fun _ q => (by cases q)⟩
theorem fz_X0_addTakenBack_l3 {m : dc_M} {a b : Nat} {c0 : dc_M} {x0 : Nat} {x1 : Nat} {x2 : Int32} {x3 : Int32} {x4 : Int32} {x5 : Int32} {x6 : Int32} {e : dc_M} (hx : x0 = 12) (hD : FZ a b c0 m) (h : d_X0_addTakenBack_l3 x0 x1 x2 x3 x4 x5 x6 m = some e) : FZ a b c0 e := by
  unfold d_X0_addTakenBack_l3 at h
  refine dc_lp_inv (fun s => FZ a b c0 (s.2)) (fun e => FZ a b c0 e) (fun s s' hI e1 => ?_) (fun s e' hI e1 => ?_) hD h
  · unfold d_X0_addTakenBack_l3s d_X0_addTakenBack_l3b at e1
    by_cases c1 : (Int32.toInt (s.2.1 x1 1)) ≤ (Int32.toInt s.1)
    · rw [if_pos c1] at e1
      cases e1
    · rw [if_neg c1] at e1
      by_cases c2 : (Int32.toInt ((x3 >>> (s.1 &&& 31)) &&& (1 : Int32))) = 0
      · rw [if_pos c2] at e1
        cases e1
        exact hI
      · rw [if_neg c2] at e1
        by_cases c3 : ¬ (Int32.toInt ((x2 >>> ((s.2.1 (x1 + 3) (Int32.toNatClampNeg s.1)) &&& 31)) &&& (1 : Int32))) = 0
        · rw [if_pos c3] at e1
          by_cases c4 : (Int32.toInt (s.2.1 x0 4)) = 0
          · rw [if_pos c4] at e1
            exact (fz_X0_addTakenBack_b63 hx hI e1).1 _ rfl
          · rw [if_neg c4] at e1
            by_cases c5 : ¬ (Int32.toInt x4) = (Int32.toInt (s.2.1 x0 5))
            · rw [if_pos c5] at e1
              cases e1
              exact (fz_wi hI (fun q => by first | exact hx q _ | (unfold fzc; omega)))
            · rw [if_neg c5] at e1
              by_cases c6 : (Int32.toInt (s.2.1 x0 6)) ≤ (Int32.toInt s.1)
              · rw [if_pos c6] at e1
                cases e1
                exact (fz_wi hI (fun q => by first | exact hx q _ | (unfold fzc; omega)))
              · rw [if_neg c6] at e1
                exact (fz_X0_addTakenBack_b63 hx hI e1).1 _ rfl
        · rw [if_neg c3] at e1
          cases e1
          exact hI
  · unfold d_X0_addTakenBack_l3s d_X0_addTakenBack_l3b at e1
    by_cases c1 : (Int32.toInt (s.2.1 x1 1)) ≤ (Int32.toInt s.1)
    · rw [if_pos c1] at e1
      cases e1
      exact hI
    · rw [if_neg c1] at e1
      by_cases c2 : (Int32.toInt ((x3 >>> (s.1 &&& 31)) &&& (1 : Int32))) = 0
      · rw [if_pos c2] at e1
        cases e1
      · rw [if_neg c2] at e1
        by_cases c3 : ¬ (Int32.toInt ((x2 >>> ((s.2.1 (x1 + 3) (Int32.toNatClampNeg s.1)) &&& 31)) &&& (1 : Int32))) = 0
        · rw [if_pos c3] at e1
          by_cases c4 : (Int32.toInt (s.2.1 x0 4)) = 0
          · rw [if_pos c4] at e1
            exact (fz_X0_addTakenBack_b63 hx hI e1).2 _ rfl
          · rw [if_neg c4] at e1
            by_cases c5 : ¬ (Int32.toInt x4) = (Int32.toInt (s.2.1 x0 5))
            · rw [if_pos c5] at e1
              cases e1
            · rw [if_neg c5] at e1
              by_cases c6 : (Int32.toInt (s.2.1 x0 6)) ≤ (Int32.toInt s.1)
              · rw [if_pos c6] at e1
                cases e1
              · rw [if_neg c6] at e1
                exact (fz_X0_addTakenBack_b63 hx hI e1).2 _ rfl
        · rw [if_neg c3] at e1
          cases e1
theorem fz_X0_addTakenBack {m : dc_M} {a b : Nat} {c0 : dc_M} {x0 : Nat} {x1 : Nat} {x2 : Int32} {x3 : Int32} {x4 : Int32} {x5 : Int32} {e : dc_M} (hx : x0 = 12) (hD : FZ a b c0 m) (h : d_X0_addTakenBack x0 x1 x2 x3 x4 x5 m = some e) : FZ a b c0 e := by
  unfold d_X0_addTakenBack at h
  exact fz_X0_addTakenBack_l3 hx hD h
theorem fz_X0_findTakenBack_l38 {m : dc_M} {a b : Nat} {c0 : dc_M} {x0 : Nat} {x1 : Nat} {x2 : Int32} {x3 : Nat} {x4 : Int32} {x5 : Int32} {u : ((Int32 × dc_M) ⊕ dc_M)} (hx : x0 = 12) (hD : FZ a b c0 m) (h : d_X0_findTakenBack_l38 x0 x1 x2 x3 x4 x5 m = some u) : (∀ s', u = .inl s' → FZ a b c0 (s'.2)) ∧ (∀ e, u = .inr e → FZ a b c0 e) := by
  unfold d_X0_findTakenBack_l38 at h
  refine dc_lp_inv (fun s => FZ a b c0 (s.2)) (fun u => (∀ s', u = .inl s' → FZ a b c0 (s'.2)) ∧ (∀ e, u = .inr e → FZ a b c0 e)) (fun s s' hI e1 => ?_) (fun s e' hI e1 => ?_) hD h
  · unfold d_X0_findTakenBack_l38s d_X0_findTakenBack_l38b at e1
    by_cases c1 : (Int32.toInt (s.2.1 x1 1)) ≤ (Int32.toInt s.1)
    · rw [if_pos c1] at e1
      cases e1
    · rw [if_neg c1] at e1
      by_cases c2 : 0 ≤ (Int32.toInt (d_X7_behind x3 x4 s.1 s.2))
      · rw [if_pos c2] at e1
        by_cases c3 : (Int32.toInt ((((s.2.1 (x3 + 4) (Int32.toNatClampNeg x4)) &&& ((s.2.1 (x3 + 4) (Int32.toNatClampNeg (d_X7_behind x3 x4 s.1 s.2))) ^^^ (-1 : Int32))) &&& x2) &&& (((1 : Int32) <<< ((s.2.1 (x1 + 3) (Int32.toNatClampNeg s.1)) &&& 31)) ^^^ (-1 : Int32)))) = 0
        · rw [if_pos c3] at e1
          cases e1
          exact hI
        · rw [if_neg c3] at e1
          cases hq1 : (d_X0_addTakenBack x0 x1 ((((s.2.1 (x3 + 4) (Int32.toNatClampNeg x4)) &&& ((s.2.1 (x3 + 4) (Int32.toNatClampNeg (d_X7_behind x3 x4 s.1 s.2))) ^^^ (-1 : Int32))) &&& x2) &&& (((1 : Int32) <<< ((s.2.1 (x1 + 3) (Int32.toNatClampNeg s.1)) &&& 31)) ^^^ (-1 : Int32))) (s.2.1 (x3 + 2) (Int32.toNatClampNeg x4)) x4 s.1 s.2) with
          | none => rw [hq1] at e1; cases e1
          | some q1 =>
            rw [hq1, Option.bind_some] at e1
            have dq1 := fz_X0_addTakenBack hx hI hq1
            cases e1
            exact dq1
      · rw [if_neg c2] at e1
        cases e1
        exact hI
  · unfold d_X0_findTakenBack_l38s d_X0_findTakenBack_l38b at e1
    by_cases c1 : (Int32.toInt (s.2.1 x1 1)) ≤ (Int32.toInt s.1)
    · rw [if_pos c1] at e1
      cases e1
      exact ⟨fun _ q => (by cases q; exact hI), fun _ q => (by cases q)⟩
    · rw [if_neg c1] at e1
      by_cases c2 : 0 ≤ (Int32.toInt (d_X7_behind x3 x4 s.1 s.2))
      · rw [if_pos c2] at e1
        by_cases c3 : (Int32.toInt ((((s.2.1 (x3 + 4) (Int32.toNatClampNeg x4)) &&& ((s.2.1 (x3 + 4) (Int32.toNatClampNeg (d_X7_behind x3 x4 s.1 s.2))) ^^^ (-1 : Int32))) &&& x2) &&& (((1 : Int32) <<< ((s.2.1 (x1 + 3) (Int32.toNatClampNeg s.1)) &&& 31)) ^^^ (-1 : Int32)))) = 0
        · rw [if_pos c3] at e1
          cases e1
        · rw [if_neg c3] at e1
          cases hq1 : (d_X0_addTakenBack x0 x1 ((((s.2.1 (x3 + 4) (Int32.toNatClampNeg x4)) &&& ((s.2.1 (x3 + 4) (Int32.toNatClampNeg (d_X7_behind x3 x4 s.1 s.2))) ^^^ (-1 : Int32))) &&& x2) &&& (((1 : Int32) <<< ((s.2.1 (x1 + 3) (Int32.toNatClampNeg s.1)) &&& 31)) ^^^ (-1 : Int32))) (s.2.1 (x3 + 2) (Int32.toNatClampNeg x4)) x4 s.1 s.2) with
          | none => rw [hq1] at e1; cases e1
          | some q1 =>
            rw [hq1, Option.bind_some] at e1
            have dq1 := fz_X0_addTakenBack hx hI hq1
            cases e1
      · rw [if_neg c2] at e1
        cases e1
theorem fz_X0_findTakenBack_l26 {m : dc_M} {a b : Nat} {c0 : dc_M} {x0 : Nat} {x1 : Nat} {x2 : Int32} {x3 : Nat} {x4 : Int32} {e : dc_M} (hx : x0 = 12) (hD : FZ a b c0 m) (h : d_X0_findTakenBack_l26 x0 x1 x2 x3 x4 m = some e) : FZ a b c0 e := by
  unfold d_X0_findTakenBack_l26 at h
  refine dc_lp_inv (fun s => FZ a b c0 (s.2)) (fun e => FZ a b c0 e) (fun s s' hI e1 => ?_) (fun s e' hI e1 => ?_) hD h
  · unfold d_X0_findTakenBack_l26s d_X0_findTakenBack_l26b at e1
    by_cases c1 : (Int32.toInt (s.2.1 x3 0)) ≤ (Int32.toInt s.1)
    · rw [if_pos c1] at e1
      cases e1
    · rw [if_neg c1] at e1
      exact (fz_X0_findTakenBack_l38 hx hI e1).1 _ rfl
  · unfold d_X0_findTakenBack_l26s d_X0_findTakenBack_l26b at e1
    by_cases c1 : (Int32.toInt (s.2.1 x3 0)) ≤ (Int32.toInt s.1)
    · rw [if_pos c1] at e1
      cases e1
      exact hI
    · rw [if_neg c1] at e1
      exact (fz_X0_findTakenBack_l38 hx hI e1).2 _ rfl
theorem fz_X0_findTakenBack {m : dc_M} {a b : Nat} {c0 : dc_M} {x0 : Nat} {x1 : Nat} {x2 : Int32} {x3 : Nat} {e : dc_M} (hx : x0 = 12) (hD : FZ a b c0 m) (h : d_X0_findTakenBack x0 x1 x2 x3 m = some e) : FZ a b c0 e := by
  unfold d_X0_findTakenBack at h
  exact fz_X0_findTakenBack_l26 hx (fz_wi (fz_wi (fz_wi (fz_wi hD (fun q => by first | exact hx q _ | (unfold fzc; omega))) (fun q => by first | exact hx q _ | (unfold fzc; omega))) (fun q => by first | exact hx q _ | (unfold fzc; omega))) (fun q => by first | exact hx q _ | (unfold fzc; omega))) h
theorem fz_X0_find {m : dc_M} {a b : Nat} {c0 : dc_M} {x0 : Nat} {x1 : Nat} {x2 : Nat} {e : dc_M} (hx : x0 = 12) (hD : FZ a b c0 m) (h : d_X0_find x0 x1 x2 m = some e) : FZ a b c0 e := by
  unfold d_X0_find at h
  cases hq1 : (d_X3_madeWires x1 m) with
  | none => rw [hq1] at h; cases h
  | some q1 =>
    rw [hq1, Option.bind_some] at h
    cases hq2 : (d_X0_findQuarrels x0 q1 x2 m) with
    | none => rw [hq2] at h; cases h
    | some q2 =>
      rw [hq2, Option.bind_some] at h
      have dq2 := fz_X0_findQuarrels hx hD hq2
      cases hq3 : (d_X0_findTakenBack x0 x1 q1 x2 q2) with
      | none => rw [hq3] at h; cases h
      | some q3 =>
        rw [hq3, Option.bind_some] at h
        have dq3 := fz_X0_findTakenBack hx dq2 hq3
        cases h
        exact dq3
theorem fy_X8_gather_l85 {m : dc_M} {a b : Nat} {c0 : dc_M} {x0 : Nat} {x2 : Nat} {x3 : Int32} {x4 : Int64} {x6 : Int32} {x7 : Int32} {u : ((Int32 × dc_M) ⊕ dc_M)} (hx : x0 = 15) (hD : FY a b c0 m) (h : d_X8_gather_l85 x0 x2 x3 x4 x6 x7 m = some u) : (∀ s', u = .inl s' → FY a b c0 (s'.2)) ∧ (∀ e, u = .inr e → FY a b c0 e) := by
  unfold d_X8_gather_l85 at h
  refine dc_lp_inv (fun s => FY a b c0 (s.2)) (fun u => (∀ s', u = .inl s' → FY a b c0 (s'.2)) ∧ (∀ e, u = .inr e → FY a b c0 e)) (fun s s' hI e1 => ?_) (fun s e' hI e1 => ?_) hD h
  · unfold d_X8_gather_l85s d_X8_gather_l85b at e1
    by_cases c1 : (Int32.toInt (s.2.1 x0 6)) ≤ (Int32.toInt s.1)
    · rw [if_pos c1] at e1
      cases e1
    · rw [if_neg c1] at e1
      by_cases c2 : (Int32.toInt ((x6 >>> (s.1 &&& 31)) &&& (1 : Int32))) = 0
      · rw [if_pos c2] at e1
        cases e1
        exact (fy_wl hI (fun q => by unfold fyc; omega))
      · rw [if_neg c2] at e1
        cases e1
        exact (fy_wl hI (fun q => by unfold fyc; omega))
  · unfold d_X8_gather_l85s d_X8_gather_l85b at e1
    by_cases c1 : (Int32.toInt (s.2.1 x0 6)) ≤ (Int32.toInt s.1)
    · rw [if_pos c1] at e1
      cases e1
      exact ⟨fun _ q => (by cases q; exact hI), fun _ q => (by cases q)⟩
    · rw [if_neg c1] at e1
      by_cases c2 : (Int32.toInt ((x6 >>> (s.1 &&& 31)) &&& (1 : Int32))) = 0
      · rw [if_pos c2] at e1
        cases e1
      · rw [if_neg c2] at e1
        cases e1
theorem fy_X8_gather_l57 {m : dc_M} {a b : Nat} {c0 : dc_M} {x0 : Nat} {x2 : Nat} {x3 : Int32} {e : dc_M} (hx : x0 = 15) (hD : FY a b c0 m) (h : d_X8_gather_l57 x0 x2 x3 m = some e) : FY a b c0 e := by
  unfold d_X8_gather_l57 at h
  refine dc_lp_inv (fun s => FY a b c0 (s.2)) (fun e => FY a b c0 e) (fun s s' hI e1 => ?_) (fun s e' hI e1 => ?_) hD h
  · unfold d_X8_gather_l57s d_X8_gather_l57b at e1
    by_cases c1 : (Int32.toInt (s.2.1 x2 0)) ≤ (Int32.toInt s.1)
    · rw [if_pos c1] at e1
      cases e1
    · rw [if_neg c1] at e1
      exact (fy_X8_gather_l85 hx hI e1).1 _ rfl
  · unfold d_X8_gather_l57s d_X8_gather_l57b at e1
    by_cases c1 : (Int32.toInt (s.2.1 x2 0)) ≤ (Int32.toInt s.1)
    · rw [if_pos c1] at e1
      cases e1
      exact hI
    · rw [if_neg c1] at e1
      exact (fy_X8_gather_l85 hx hI e1).2 _ rfl
theorem fy_X8_gather_l17 {m : dc_M} {a b : Nat} {c0 : dc_M} {x0 : Nat} {x2 : Nat} {x3 : Int32} {e : dc_M} (hx : x0 = 15) (hD : FY a b c0 m) (h : d_X8_gather_l17 x0 x2 x3 m = some e) : FY a b c0 e := by
  unfold d_X8_gather_l17 at h
  refine dc_lp_inv (fun s => FY a b c0 (s.2)) (fun e => FY a b c0 e) (fun s s' hI e1 => ?_) (fun s e' hI e1 => ?_) hD h
  · unfold d_X8_gather_l17s d_X8_gather_l17b at e1
    by_cases c1 : (Int32.toInt (s.2.1 x0 6)) ≤ (Int32.toInt s.1)
    · rw [if_pos c1] at e1
      cases hz : d_X8_gather_l57 x0 x2 (0 : Int32) s.2 with
      | none => rw [hz] at e1; cases e1
      | some z =>
        rw [hz] at e1
        cases e1
    · rw [if_neg c1] at e1
      cases e1
      exact (fy_wl (fy_wl (fy_wi hI (fun q => by first | exact hx q _ | (unfold fyc; omega))) (fun q => by unfold fyc; omega)) (fun q => by unfold fyc; omega))
  · unfold d_X8_gather_l17s d_X8_gather_l17b at e1
    by_cases c1 : (Int32.toInt (s.2.1 x0 6)) ≤ (Int32.toInt s.1)
    · rw [if_pos c1] at e1
      cases hz : d_X8_gather_l57 x0 x2 (0 : Int32) s.2 with
      | none => rw [hz] at e1; cases e1
      | some z =>
        rw [hz] at e1
        cases e1
        exact fy_X8_gather_l57 hx hI hz
    · rw [if_neg c1] at e1
      cases e1
theorem fy_X8_gather {m : dc_M} {a b : Nat} {c0 : dc_M} {x0 : Nat} {x1 : Int32} {x2 : Nat} {e : dc_M} (hx : x0 = 15) (hD : FY a b c0 m) (h : d_X8_gather x0 x1 x2 m = some e) : FY a b c0 e := by
  unfold d_X8_gather at h
  exact fy_X8_gather_l17 hx (fy_wi (fy_wi (fy_wi hD (fun q => by first | exact hx q _ | (unfold fyc; omega))) (fun q => by first | exact hx q _ | (unfold fyc; omega))) (fun q => by first | exact hx q _ | (unfold fyc; omega))) h
theorem ft_X0_addTakenBack_b63 {m : dc_M} {a b : Nat} {c0 : dc_M} {x0 : Nat} {x1 : Nat} {x2 : Int32} {x3 : Int32} {x4 : Int32} {x5 : Int32} {x6 : Int32} {u : ((Int32 × dc_M) ⊕ dc_M)} (hx : x0 = 12) (hD : FT a b c0 m) (h : d_X0_addTakenBack_b63 x0 x1 x2 x3 x4 x5 x6 m = some u) : (∀ s', u = .inl s' → FT a b c0 (s'.2)) ∧ (∀ e, u = .inr e → FT a b c0 e) := by
  unfold d_X0_addTakenBack_b63 at h
  cases h
  exact ⟨fun _ q => (by cases q; exact (ft_wi (ft_wi (ft_wi (ft_wi hD (fun q => by first | exact hx q _ | (unfold ftc; omega))) (fun q => by first | exact hx q _ | (unfold ftc; omega))) (fun q => by first | exact hx q _ | (unfold ftc; omega))) (fun q => by first | exact hx q _ | (unfold ftc; omega)))), fun _ q => (by cases q)⟩
theorem ft_X0_addTakenBack_l3 {m : dc_M} {a b : Nat} {c0 : dc_M} {x0 : Nat} {x1 : Nat} {x2 : Int32} {x3 : Int32} {x4 : Int32} {x5 : Int32} {x6 : Int32} {e : dc_M} (hx : x0 = 12) (hD : FT a b c0 m) (h : d_X0_addTakenBack_l3 x0 x1 x2 x3 x4 x5 x6 m = some e) : FT a b c0 e := by
  unfold d_X0_addTakenBack_l3 at h
  refine dc_lp_inv (fun s => FT a b c0 (s.2)) (fun e => FT a b c0 e) (fun s s' hI e1 => ?_) (fun s e' hI e1 => ?_) hD h
  · unfold d_X0_addTakenBack_l3s d_X0_addTakenBack_l3b at e1
    by_cases c1 : (Int32.toInt (s.2.1 x1 1)) ≤ (Int32.toInt s.1)
    · rw [if_pos c1] at e1
      cases e1
    · rw [if_neg c1] at e1
      by_cases c2 : (Int32.toInt ((x3 >>> (s.1 &&& 31)) &&& (1 : Int32))) = 0
      · rw [if_pos c2] at e1
        cases e1
        exact hI
      · rw [if_neg c2] at e1
        by_cases c3 : ¬ (Int32.toInt ((x2 >>> ((s.2.1 (x1 + 3) (Int32.toNatClampNeg s.1)) &&& 31)) &&& (1 : Int32))) = 0
        · rw [if_pos c3] at e1
          by_cases c4 : (Int32.toInt (s.2.1 x0 4)) = 0
          · rw [if_pos c4] at e1
            exact (ft_X0_addTakenBack_b63 hx hI e1).1 _ rfl
          · rw [if_neg c4] at e1
            by_cases c5 : ¬ (Int32.toInt x4) = (Int32.toInt (s.2.1 x0 5))
            · rw [if_pos c5] at e1
              cases e1
              exact (ft_wi hI (fun q => by first | exact hx q _ | (unfold ftc; omega)))
            · rw [if_neg c5] at e1
              by_cases c6 : (Int32.toInt (s.2.1 x0 6)) ≤ (Int32.toInt s.1)
              · rw [if_pos c6] at e1
                cases e1
                exact (ft_wi hI (fun q => by first | exact hx q _ | (unfold ftc; omega)))
              · rw [if_neg c6] at e1
                exact (ft_X0_addTakenBack_b63 hx hI e1).1 _ rfl
        · rw [if_neg c3] at e1
          cases e1
          exact hI
  · unfold d_X0_addTakenBack_l3s d_X0_addTakenBack_l3b at e1
    by_cases c1 : (Int32.toInt (s.2.1 x1 1)) ≤ (Int32.toInt s.1)
    · rw [if_pos c1] at e1
      cases e1
      exact hI
    · rw [if_neg c1] at e1
      by_cases c2 : (Int32.toInt ((x3 >>> (s.1 &&& 31)) &&& (1 : Int32))) = 0
      · rw [if_pos c2] at e1
        cases e1
      · rw [if_neg c2] at e1
        by_cases c3 : ¬ (Int32.toInt ((x2 >>> ((s.2.1 (x1 + 3) (Int32.toNatClampNeg s.1)) &&& 31)) &&& (1 : Int32))) = 0
        · rw [if_pos c3] at e1
          by_cases c4 : (Int32.toInt (s.2.1 x0 4)) = 0
          · rw [if_pos c4] at e1
            exact (ft_X0_addTakenBack_b63 hx hI e1).2 _ rfl
          · rw [if_neg c4] at e1
            by_cases c5 : ¬ (Int32.toInt x4) = (Int32.toInt (s.2.1 x0 5))
            · rw [if_pos c5] at e1
              cases e1
            · rw [if_neg c5] at e1
              by_cases c6 : (Int32.toInt (s.2.1 x0 6)) ≤ (Int32.toInt s.1)
              · rw [if_pos c6] at e1
                cases e1
              · rw [if_neg c6] at e1
                exact (ft_X0_addTakenBack_b63 hx hI e1).2 _ rfl
        · rw [if_neg c3] at e1
          cases e1
theorem ft_X0_addTakenBack {m : dc_M} {a b : Nat} {c0 : dc_M} {x0 : Nat} {x1 : Nat} {x2 : Int32} {x3 : Int32} {x4 : Int32} {x5 : Int32} {e : dc_M} (hx : x0 = 12) (hD : FT a b c0 m) (h : d_X0_addTakenBack x0 x1 x2 x3 x4 x5 m = some e) : FT a b c0 e := by
  unfold d_X0_addTakenBack at h
  exact ft_X0_addTakenBack_l3 hx hD h
theorem ft_X0_findTakenBack_l38 {m : dc_M} {a b : Nat} {c0 : dc_M} {x0 : Nat} {x1 : Nat} {x2 : Int32} {x3 : Nat} {x4 : Int32} {x5 : Int32} {u : ((Int32 × dc_M) ⊕ dc_M)} (hx : x0 = 12) (hD : FT a b c0 m) (h : d_X0_findTakenBack_l38 x0 x1 x2 x3 x4 x5 m = some u) : (∀ s', u = .inl s' → FT a b c0 (s'.2)) ∧ (∀ e, u = .inr e → FT a b c0 e) := by
  unfold d_X0_findTakenBack_l38 at h
  refine dc_lp_inv (fun s => FT a b c0 (s.2)) (fun u => (∀ s', u = .inl s' → FT a b c0 (s'.2)) ∧ (∀ e, u = .inr e → FT a b c0 e)) (fun s s' hI e1 => ?_) (fun s e' hI e1 => ?_) hD h
  · unfold d_X0_findTakenBack_l38s d_X0_findTakenBack_l38b at e1
    by_cases c1 : (Int32.toInt (s.2.1 x1 1)) ≤ (Int32.toInt s.1)
    · rw [if_pos c1] at e1
      cases e1
    · rw [if_neg c1] at e1
      by_cases c2 : 0 ≤ (Int32.toInt (d_X7_behind x3 x4 s.1 s.2))
      · rw [if_pos c2] at e1
        by_cases c3 : (Int32.toInt ((((s.2.1 (x3 + 4) (Int32.toNatClampNeg x4)) &&& ((s.2.1 (x3 + 4) (Int32.toNatClampNeg (d_X7_behind x3 x4 s.1 s.2))) ^^^ (-1 : Int32))) &&& x2) &&& (((1 : Int32) <<< ((s.2.1 (x1 + 3) (Int32.toNatClampNeg s.1)) &&& 31)) ^^^ (-1 : Int32)))) = 0
        · rw [if_pos c3] at e1
          cases e1
          exact hI
        · rw [if_neg c3] at e1
          cases hq1 : (d_X0_addTakenBack x0 x1 ((((s.2.1 (x3 + 4) (Int32.toNatClampNeg x4)) &&& ((s.2.1 (x3 + 4) (Int32.toNatClampNeg (d_X7_behind x3 x4 s.1 s.2))) ^^^ (-1 : Int32))) &&& x2) &&& (((1 : Int32) <<< ((s.2.1 (x1 + 3) (Int32.toNatClampNeg s.1)) &&& 31)) ^^^ (-1 : Int32))) (s.2.1 (x3 + 2) (Int32.toNatClampNeg x4)) x4 s.1 s.2) with
          | none => rw [hq1] at e1; cases e1
          | some q1 =>
            rw [hq1, Option.bind_some] at e1
            have dq1 := ft_X0_addTakenBack hx hI hq1
            cases e1
            exact dq1
      · rw [if_neg c2] at e1
        cases e1
        exact hI
  · unfold d_X0_findTakenBack_l38s d_X0_findTakenBack_l38b at e1
    by_cases c1 : (Int32.toInt (s.2.1 x1 1)) ≤ (Int32.toInt s.1)
    · rw [if_pos c1] at e1
      cases e1
      exact ⟨fun _ q => (by cases q; exact hI), fun _ q => (by cases q)⟩
    · rw [if_neg c1] at e1
      by_cases c2 : 0 ≤ (Int32.toInt (d_X7_behind x3 x4 s.1 s.2))
      · rw [if_pos c2] at e1
        by_cases c3 : (Int32.toInt ((((s.2.1 (x3 + 4) (Int32.toNatClampNeg x4)) &&& ((s.2.1 (x3 + 4) (Int32.toNatClampNeg (d_X7_behind x3 x4 s.1 s.2))) ^^^ (-1 : Int32))) &&& x2) &&& (((1 : Int32) <<< ((s.2.1 (x1 + 3) (Int32.toNatClampNeg s.1)) &&& 31)) ^^^ (-1 : Int32)))) = 0
        · rw [if_pos c3] at e1
          cases e1
        · rw [if_neg c3] at e1
          cases hq1 : (d_X0_addTakenBack x0 x1 ((((s.2.1 (x3 + 4) (Int32.toNatClampNeg x4)) &&& ((s.2.1 (x3 + 4) (Int32.toNatClampNeg (d_X7_behind x3 x4 s.1 s.2))) ^^^ (-1 : Int32))) &&& x2) &&& (((1 : Int32) <<< ((s.2.1 (x1 + 3) (Int32.toNatClampNeg s.1)) &&& 31)) ^^^ (-1 : Int32))) (s.2.1 (x3 + 2) (Int32.toNatClampNeg x4)) x4 s.1 s.2) with
          | none => rw [hq1] at e1; cases e1
          | some q1 =>
            rw [hq1, Option.bind_some] at e1
            have dq1 := ft_X0_addTakenBack hx hI hq1
            cases e1
      · rw [if_neg c2] at e1
        cases e1
theorem ft_X0_findTakenBack_l26 {m : dc_M} {a b : Nat} {c0 : dc_M} {x0 : Nat} {x1 : Nat} {x2 : Int32} {x3 : Nat} {x4 : Int32} {e : dc_M} (hx : x0 = 12) (hD : FT a b c0 m) (h : d_X0_findTakenBack_l26 x0 x1 x2 x3 x4 m = some e) : FT a b c0 e := by
  unfold d_X0_findTakenBack_l26 at h
  refine dc_lp_inv (fun s => FT a b c0 (s.2)) (fun e => FT a b c0 e) (fun s s' hI e1 => ?_) (fun s e' hI e1 => ?_) hD h
  · unfold d_X0_findTakenBack_l26s d_X0_findTakenBack_l26b at e1
    by_cases c1 : (Int32.toInt (s.2.1 x3 0)) ≤ (Int32.toInt s.1)
    · rw [if_pos c1] at e1
      cases e1
    · rw [if_neg c1] at e1
      exact (ft_X0_findTakenBack_l38 hx hI e1).1 _ rfl
  · unfold d_X0_findTakenBack_l26s d_X0_findTakenBack_l26b at e1
    by_cases c1 : (Int32.toInt (s.2.1 x3 0)) ≤ (Int32.toInt s.1)
    · rw [if_pos c1] at e1
      cases e1
      exact hI
    · rw [if_neg c1] at e1
      exact (ft_X0_findTakenBack_l38 hx hI e1).2 _ rfl
theorem ft_X0_findTakenBack {m : dc_M} {a b : Nat} {c0 : dc_M} {x0 : Nat} {x1 : Nat} {x2 : Int32} {x3 : Nat} {e : dc_M} (hx : x0 = 12) (hD : FT a b c0 m) (h : d_X0_findTakenBack x0 x1 x2 x3 m = some e) : FT a b c0 e := by
  unfold d_X0_findTakenBack at h
  exact ft_X0_findTakenBack_l26 hx (ft_wi (ft_wi (ft_wi (ft_wi hD (fun q => by first | exact hx q _ | (unfold ftc; omega))) (fun q => by first | exact hx q _ | (unfold ftc; omega))) (fun q => by first | exact hx q _ | (unfold ftc; omega))) (fun q => by first | exact hx q _ | (unfold ftc; omega))) h
