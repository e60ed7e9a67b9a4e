/-! ===== calls that explore: what the class remembers stays true (written by a program) ===== -/
def CP (a b : Nat) (c0 m : dc_M) : Prop := cs_md a b ∧ m.2.2.1 1 7 = a ∧ m.2.2.1 1 8 = b ∧ m.2.2 = c0.2.2 ∧ (m.2.2.2 10).2 = 512 ∧ CK m ∧ ∀ x k, x = 2 ∨ x = 3 ∨ (a ≤ x ∧ x ≤ a + 10) ∨ (37 ≤ x ∧ x ≤ 39) ∨ (74 ≤ x ∧ x ≤ 119) → m.1 x k = c0.1 x k
def cpc (a b x k : Nat) : Prop := ¬ (x = 1 ∧ k = 11) ∧ ¬ (4 ≤ x ∧ x ≤ 10 ∧ ¬ (x = 4 ∧ k = 11)) ∧ ¬ (x = 2 ∨ x = 3 ∨ (a ≤ x ∧ x ≤ a + 10) ∨ (37 ≤ x ∧ x ≤ 39) ∨ (74 ≤ x ∧ x ≤ 119))
theorem cp_wi {a b : Nat} {c0 m : dc_M} {x k : Nat} {v : Int32} (h : CP a b c0 m) (hs : (a = 41 ∧ b = 52) ∨ (a = 52 ∧ b = 41) → cpc a b x k) : CP a b c0 (dc_wi m x k v) := by
  obtain ⟨h1, h2, h3, h4, h5, h6, h7⟩ := h
  obtain ⟨s1, s2, s3⟩ := hs h1
  refine ⟨h1, h2, h3, h4, h5, h6.eq (wi_k (by omega)) rfl (fun i hi => wi_f ?_) (fun y j y1 y2 y3 => wi_k (by omega)), fun y j hy => (wi_k (by omega)).trans (h7 y j hy)⟩
  rw [h2]
  omega
theorem cp_wl {a b : Nat} {c0 m : dc_M} {x k : Nat} {v : Int64} (h : CP a b c0 m) (_ : (a = 41 ∧ b = 52) ∨ (a = 52 ∧ b = 41) → cpc a b x k) : CP a b c0 (dc_wl m x k v) := h
theorem cp_cp {a b : Nat} {c0 m : dc_M} {y sp x dp n : Nat} (h : CP a b c0 m) (hs : (a = 41 ∧ b = 52) ∨ (a = 52 ∧ b = 41) → ∀ k, cpc a b x k) : CP a b c0 (dc_cp m y sp x dp n) := by
  have ck : ∀ {z : Nat} k, z ≠ x → (dc_cp m y sp x dp n).1 z k = m.1 z k := fun {z} k hz => by
    show (if z = x then _ else _) = _
    rw [if_neg hz]
  obtain ⟨h1, h2, h3, h4, h5, h6, h7⟩ := h
  have g := hs h1
  have gx : ∀ z k, ¬ cpc a b z k → z ≠ x := fun z k q e => q (e ▸ g k)
  unfold cpc at gx
  refine ⟨h1, h2, h3, h4, h5, h6.eq (ck 11 (gx 1 11 (by omega))) rfl (fun i hi => ?_) (fun z j y1 y2 y3 => ck j (gx z j (by omega))), fun z j hz => (ck j (gx z j (by omega))).trans (h7 z j hz)⟩
  rw [h2]
  exact funext (fun k => ck k (gx (a + i) k (by omega)))
theorem cp_ex {a b : Nat} {c0 m e : dc_M} (h : CP a b c0 m) (q : d_X9_explore 1 m = some e) : CP a b c0 e := by
  obtain ⟨h1, h2, h3, h4, h5, h6, h7⟩ := h
  have ha : a = 41 ∨ a = 52 := by
    rcases h1 with ⟨g, -⟩ | ⟨g, -⟩
    · exact Or.inl g
    · exact Or.inr g
  obtain ⟨k1, k2, k3, k4⟩ := ck_ex ha h2 h5 h6 q
  refine ⟨h1, by rw [k4]; exact h2, by rw [k4]; exact h3, by rw [k4]; exact h4, by rw [k4]; exact h5, k1, fun x k hx => (k3 x k (by omega) (by omega)).trans (h7 x k hx)⟩
theorem cp_X9_states {m : dc_M} {a b : Nat} {c0 : dc_M}  {e : (Int32 × dc_M)} (hD : CP a b c0 m) (h : d_X9_states 1 m = some e) : CP a b c0 (e.2) := by
  unfold d_X9_states at h
  cases hq1 : (d_X9_explore 1 m) with
  | none => rw [hq1] at h; cases h
  | some q1 =>
    rw [hq1, Option.bind_some] at h
    have dq1 := cp_ex hD hq1
    by_cases c1 : (Int32.toInt (q1.1 (1 + 3) 1)) = 0
    · rw [if_pos c1] at h
      cases h
      exact dq1
    · rw [if_neg c1] at h
      cases h
      exact dq1
theorem cp_X9_isRight {m : dc_M} {a b : Nat} {c0 : dc_M}  {e : (Int32 × dc_M)} (hD : CP a b c0 m) (h : d_X9_isRight 1 m = some e) : CP a b c0 (e.2) := by
  unfold d_X9_isRight at h
  cases hq1 : (d_X9_explore 1 m) with
  | none => rw [hq1] at h; cases h
  | some q1 =>
    rw [hq1, Option.bind_some] at h
    have dq1 := cp_ex hD hq1
    cases h
    exact dq1
theorem cp_X9_right {m : dc_M} {a b : Nat} {c0 : dc_M}  {e : (Int32 × dc_M)} (hD : CP a b c0 m) (h : d_X9_right 1 m = some e) : CP a b c0 (e.2) := by
  unfold d_X9_right at h
  cases hq1 : (d_X9_isRight 1 m) with
  | none => rw [hq1] at h; cases h
  | some q1 =>
    rw [hq1, Option.bind_some] at h
    have dq1 := cp_X9_isRight hD hq1
    by_cases c1 : (Int32.toInt q1.1) = 0
    · rw [if_pos c1] at h
      cases h
      exact dq1
    · rw [if_neg c1] at h
      cases h
      exact dq1
theorem cp_X9_of {m : dc_M} {a b : Nat} {c0 : dc_M} {x1 : Int32} {x2 : Int32} {e : (Int32 × dc_M)} (hD : CP a b c0 m) (h : d_X9_of 1 x1 x2 m = some e) : CP a b c0 (e.2) := by
  unfold d_X9_of at h
  cases hq1 : (d_X9_explore 1 m) with
  | none => rw [hq1] at h; cases h
  | some q1 =>
    rw [hq1, Option.bind_some] at h
    have dq1 := cp_ex hD hq1
    by_cases c1 : (Int32.toInt x1) < 0
    · rw [if_pos c1] at h
      cases h
      exact dq1
    · rw [if_neg c1] at h
      by_cases c2 : (Int32.toInt x1) < (Int32.toInt (q1.1 (1 + 3) 0))
      · rw [if_pos c2] at h
        by_cases c3 : (Int32.toInt x2) < 10
        · rw [if_pos c3] at h
          by_cases c4 : (Int32.toInt x2) < 0
          · rw [if_pos c4] at h
            cases h
            exact dq1
          · rw [if_neg c4] at h
            by_cases c5 : (Int32.toInt x2) ≤ 4
            · rw [if_pos c5] at h
              by_cases c6 : ¬ (Int32.toInt x2) = 0
              · rw [if_pos c6] at h
                by_cases c7 : ¬ (Int32.toInt x2) = 1
                · rw [if_pos c7] at h
                  by_cases c8 : ¬ (Int32.toInt (q1.1 (1 + 3) 3)) = 0
                  · rw [if_pos c8] at h
                    by_cases c9 : ¬ (Int32.toInt x2) = 2
                    · rw [if_pos c9] at h
                      by_cases c10 : ¬ (Int32.toInt x2) = 3
                      · rw [if_pos c10] at h
                        cases h
                        exact dq1
                      · rw [if_neg c10] at h
                        cases h
                        exact dq1
                    · rw [if_neg c9] at h
                      cases h
                      exact dq1
                  · rw [if_neg c8] at h
                    cases h
                    exact dq1
                · rw [if_neg c7] at h
                  cases h
                  exact dq1
              · rw [if_neg c6] at h
                cases h
                exact dq1
            · rw [if_neg c5] at h
              cases h
              exact dq1
        · rw [if_neg c3] at h
          by_cases c11 : (Int32.toInt (d_X3_hasEvent (q1.2.2.1 1 7) (x2 - (10 : Int32)) q1)) = 0
          · rw [if_pos c11] at h
            cases h
            exact dq1
          · rw [if_neg c11] at h
            cases h
            exact dq1
      · rw [if_neg c2] at h
        cases h
        exact dq1
theorem cp_X9_refusedCure {m : dc_M} {a b : Nat} {c0 : dc_M} {x1 : Int32} {x2 : Int32} {e : (Int32 × dc_M)} (hD : CP a b c0 m) (h : d_X9_refusedCure 1 x1 x2 m = some e) : CP a b c0 (e.2) := by
  unfold d_X9_refusedCure at h
  by_cases c1 : (Int32.toInt (d_X3_hasEvent (m.2.2.1 1 7) x1 m)) = 0
  · rw [if_pos c1] at h
    cases h
    exact hD
  · rw [if_neg c1] at h
    by_cases c2 : (Int32.toInt (d_X3_hasEvent (m.2.2.1 1 7) x2 m)) = 0
    · rw [if_pos c2] at h
      cases h
      exact hD
    · rw [if_neg c2] at h
      by_cases c3 : ¬ (Int32.toInt x1) = (Int32.toInt x2)
      · rw [if_pos c3] at h
        cases hq1 : (d_X9_isRight 1 m) with
        | none => rw [hq1] at h; cases h
        | some q1 =>
          rw [hq1, Option.bind_some] at h
          have dq1 := cp_X9_isRight hD hq1
          by_cases c4 : ¬ (Int32.toInt q1.1) = 0
          · rw [if_pos c4] at h
            by_cases c5 : (Int32.toInt (d_X3_hasRoomForCure (q1.2.2.2.1 1 7) q1.2)) = 0
            · rw [if_pos c5] at h
              cases h
              exact dq1
            · rw [if_neg c5] at h
              cases h
              exact dq1
          · rw [if_neg c4] at h
            cases h
            exact dq1
      · rw [if_neg c3] at h
        cases h
        exact hD
theorem cp_J7_fill_53178_l5 {m : dc_M} {a b : Nat} {c0 : dc_M} {x0 : Nat} {x1 : Int32} {x2 : Int32} {x3 : Int32} {e : dc_M} (hx : (a = 41 ∧ b = 52) ∨ (a = 52 ∧ b = 41) → ∀ k, cpc a b x0 k) (hD : CP a b c0 m) (h : d_J7_fill_53178_l5 x0 x1 x3 x2 m = some e) : CP a b c0 e := by
  unfold d_J7_fill_53178_l5 at h
  refine dc_lp_inv (fun s => CP a b c0 (s.2)) (fun e => CP a b c0 e) (fun s s' hI e1 => ?_) (fun s e' hI e1 => ?_) hD h
  · unfold d_J7_fill_53178_l5s d_J7_fill_53178_l5b at e1
    by_cases c1 : (Int32.toInt x3) ≤ (Int32.toInt s.1)
    · rw [if_pos c1] at e1
      cases e1
    · rw [if_neg c1] at e1
      cases e1
      exact (cp_wi hI (fun q => by first | exact hx q _ | (unfold cpc; omega)))
  · unfold d_J7_fill_53178_l5s d_J7_fill_53178_l5b at e1
    by_cases c1 : (Int32.toInt x3) ≤ (Int32.toInt s.1)
    · rw [if_pos c1] at e1
      cases e1
      exact hI
    · rw [if_neg c1] at e1
      cases e1
theorem cp_J7_fill_53178 {m : dc_M} {a b : Nat} {c0 : dc_M} {x0 : Nat} {x1 : Int32} {e : dc_M} (hx : (a = 41 ∧ b = 52) ∨ (a = 52 ∧ b = 41) → ∀ k, cpc a b x0 k) (hD : CP a b c0 m) (h : d_J7_fill_53178 x0 x1 m = some e) : CP a b c0 e := by
  unfold d_J7_fill_53178 at h
  exact cp_J7_fill_53178_l5 hx hD h
theorem cp_X0_addQuarrel {m : dc_M} {a b : Nat} {c0 : dc_M} {x0 : Nat} {x1 : Int32} {x2 : Int32} (hx : x0 = 12 ∨ x0 = 71) (hD : CP a b c0 m) : CP a b c0 ((d_X0_addQuarrel x0 x1 x2 m)) := by
  unfold d_X0_addQuarrel
  by_cases c1 : (Int32.toInt (m.1 x0 1)) = 0
  · rw [if_pos c1]
    exact (cp_wi (cp_wi (cp_wi hD (fun q => by first | exact hx q _ | (unfold cpc; omega))) (fun q => by first | exact hx q _ | (unfold cpc; omega))) (fun q => by first | exact hx q _ | (unfold cpc; omega)))
  · rw [if_neg c1]
    by_cases c2 : (Int32.toInt (m.1 x0 2)) ≤ (Int32.toInt x1)
    · rw [if_pos c2]
      exact (cp_wi hD (fun q => by first | exact hx q _ | (unfold cpc; omega)))
    · rw [if_neg c2]
      exact (cp_wi (cp_wi (cp_wi hD (fun q => by first | exact hx q _ | (unfold cpc; omega))) (fun q => by first | exact hx q _ | (unfold cpc; omega))) (fun q => by first | exact hx q _ | (unfold cpc; omega)))
theorem cp_X0_findQuarrels_b128 {m : dc_M} {a b : Nat} {c0 : dc_M} {x0 : Nat} {x1 : Int32} {x2 : Nat} {x3 : Int32} {x4 : Int32} {u : ((Int32 × dc_M) ⊕ dc_M)} (hx : x0 = 12 ∨ x0 = 71) (hD : CP a b c0 m) (h : d_X0_findQuarrels_b128 x0 x1 x2 x3 x4 m = some u) : (∀ s', u = .inl s' → CP a b c0 (s'.2)) ∧ (∀ e, u = .inr e → CP a b c0 e) := by
  unfold d_X0_findQuarrels_b128 at h
  cases h
  exact ⟨fun _ q => (by cases q; exact (cp_wi (cp_wi hD (fun q => by unfold cpc; omega)) (fun q => by unfold cpc; omega))), fun _ q => (by cases q)⟩
theorem cp_X0_findQuarrels_l64 {m : dc_M} {a b : Nat} {c0 : dc_M} {x0 : Nat} {x1 : Int32} {x2 : Nat} {x3 : Int32} {x4 : Int32} {x5 : Int32} {x6 : Int32} {u : ((Int32 × dc_M) ⊕ dc_M)} (hx : x0 = 12 ∨ x0 = 71) (hD : CP a b c0 m) (h : d_X0_findQuarrels_l64 x0 x1 x2 x3 x4 x5 x6 m = some u) : (∀ s', u = .inl s' → CP a b c0 (s'.2)) ∧ (∀ e, u = .inr e → CP a b c0 e) := by
  unfold d_X0_findQuarrels_l64 at h
  refine dc_lp_inv (fun s => CP a b c0 (s.2.2)) (fun u => (∀ s', u = .inl s' → CP a b c0 (s'.2)) ∧ (∀ e, u = .inr e → CP a b c0 e)) (fun s s' hI e1 => ?_) (fun s e' hI e1 => ?_) hD h
  · unfold d_X0_findQuarrels_l64s d_X0_findQuarrels_l64b at e1
    by_cases c1 : 200 ≤ (Int32.toInt s.2.1)
    · rw [if_pos c1] at e1
      cases hz : d_X0_findQuarrels_b128 x0 x1 x2 x3 x4 s.2.2 with
      | none => rw [hz] at e1; cases e1
      | some z =>
        rw [hz] at e1
        cases e1
    · rw [if_neg c1] at e1
      by_cases c2 : (Int32.toInt s.1) < 0
      · rw [if_pos c2] at e1
        cases hz : d_X0_findQuarrels_b128 x0 x1 x2 x3 x4 s.2.2 with
        | none => rw [hz] at e1; cases e1
        | some z =>
          rw [hz] at e1
          cases e1
      · rw [if_neg c2] at e1
        by_cases c3 : (Int32.toInt ((((dc_wi s.2.2 x0 0 ((s.2.2.1 x0 0) + (1 : Int32))).1 (x2 + 4) (Int32.toNatClampNeg x3)) ^^^ ((dc_wi s.2.2 x0 0 ((s.2.2.1 x0 0) + (1 : Int32))).1 (x2 + 4) (Int32.toNatClampNeg s.1))) &&& x1)) = 0
        · rw [if_pos c3] at e1
          cases e1
          exact (cp_wi hI (fun q => by first | exact hx q _ | (unfold cpc; omega)))
        · rw [if_neg c3] at e1
          have dq1 : CP a b c0 ((d_X0_addQuarrel x0 s.1 x3 (dc_wi s.2.2 x0 0 ((s.2.2.1 x0 0) + (1 : Int32))))) := cp_X0_addQuarrel hx (cp_wi hI (fun q => by first | exact hx q _ | (unfold cpc; omega)))
          generalize (d_X0_addQuarrel x0 s.1 x3 (dc_wi s.2.2 x0 0 ((s.2.2.1 x0 0) + (1 : Int32)))) = q1 at e1 dq1
          rw [dc_let_eq] at e1
          cases e1
          exact dq1
  · unfold d_X0_findQuarrels_l64s d_X0_findQuarrels_l64b at e1
    by_cases c1 : 200 ≤ (Int32.toInt s.2.1)
    · rw [if_pos c1] at e1
      cases hz : d_X0_findQuarrels_b128 x0 x1 x2 x3 x4 s.2.2 with
      | none => rw [hz] at e1; cases e1
      | some z =>
        rw [hz] at e1
        cases e1
        exact cp_X0_findQuarrels_b128 hx hI hz
    · rw [if_neg c1] at e1
      by_cases c2 : (Int32.toInt s.1) < 0
      · rw [if_pos c2] at e1
        cases hz : d_X0_findQuarrels_b128 x0 x1 x2 x3 x4 s.2.2 with
        | none => rw [hz] at e1; cases e1
        | some z =>
          rw [hz] at e1
          cases e1
          exact cp_X0_findQuarrels_b128 hx hI hz
      · rw [if_neg c2] at e1
        by_cases c3 : (Int32.toInt ((((dc_wi s.2.2 x0 0 ((s.2.2.1 x0 0) + (1 : Int32))).1 (x2 + 4) (Int32.toNatClampNeg x3)) ^^^ ((dc_wi s.2.2 x0 0 ((s.2.2.1 x0 0) + (1 : Int32))).1 (x2 + 4) (Int32.toNatClampNeg s.1))) &&& x1)) = 0
        · rw [if_pos c3] at e1
          cases e1
        · rw [if_neg c3] at e1
          have dq1 : CP a b c0 ((d_X0_addQuarrel x0 s.1 x3 (dc_wi s.2.2 x0 0 ((s.2.2.1 x0 0) + (1 : Int32))))) := cp_X0_addQuarrel hx (cp_wi hI (fun q => by first | exact hx q _ | (unfold cpc; omega)))
          generalize (d_X0_addQuarrel x0 s.1 x3 (dc_wi s.2.2 x0 0 ((s.2.2.1 x0 0) + (1 : Int32)))) = q1 at e1 dq1
          rw [dc_let_eq] at e1
          cases e1
theorem cp_X0_findQuarrels_l33 {m : dc_M} {a b : Nat} {c0 : dc_M} {x0 : Nat} {x1 : Int32} {x2 : Nat} {x3 : Int32} {e : dc_M} (hx : x0 = 12 ∨ x0 = 71) (hD : CP a b c0 m) (h : d_X0_findQuarrels_l33 x0 x1 x2 x3 m = some e) : CP a b c0 e := by
  unfold d_X0_findQuarrels_l33 at h
  refine dc_lp_inv (fun s => CP a b c0 (s.2)) (fun e => CP a b c0 e) (fun s s' hI e1 => ?_) (fun s e' hI e1 => ?_) hD h
  · unfold d_X0_findQuarrels_l33s d_X0_findQuarrels_l33b at e1
    by_cases c1 : (Int32.toInt (s.2.1 x2 0)) ≤ (Int32.toInt s.1)
    · rw [if_pos c1] at e1
      cases e1
    · rw [if_neg c1] at e1
      exact (cp_X0_findQuarrels_l64 hx hI e1).1 _ rfl
  · unfold d_X0_findQuarrels_l33s d_X0_findQuarrels_l33b at e1
    by_cases c1 : (Int32.toInt (s.2.1 x2 0)) ≤ (Int32.toInt s.1)
    · rw [if_pos c1] at e1
      cases e1
      exact hI
    · rw [if_neg c1] at e1
      exact (cp_X0_findQuarrels_l64 hx hI e1).2 _ rfl
theorem cp_X0_findQuarrels {m : dc_M} {a b : Nat} {c0 : dc_M} {x0 : Nat} {x1 : Int32} {x2 : Nat} {e : dc_M} (hx : x0 = 12 ∨ x0 = 71) (hD : CP a b c0 m) (h : d_X0_findQuarrels x0 x1 x2 m = some e) : CP a b c0 e := by
  unfold d_X0_findQuarrels at h
  cases hq1 : (d_J7_fill_53178 (x0 + 1) (-4 : Int32) (dc_wi (dc_wi (dc_wi (dc_wi m x0 0 (0 : Int32)) x0 1 (0 : Int32)) x0 2 (-4 : Int32)) x0 3 (-4 : Int32))) with
  | none => rw [hq1] at h; cases h
  | some q1 =>
    rw [hq1, Option.bind_some] at h
    have dq1 := cp_J7_fill_53178 (fun q k => by unfold cpc; omega) (cp_wi (cp_wi (cp_wi (cp_wi hD (fun q => by first | exact hx q _ | (unfold cpc; omega))) (fun q => by first | exact hx q _ | (unfold cpc; omega))) (fun q => by first | exact hx q _ | (unfold cpc; omega))) (fun q => by first | exact hx q _ | (unfold cpc; omega))) hq1
    exact cp_X0_findQuarrels_l33 hx dq1 h
theorem cp_X0_addTakenBack_b63 {m : dc_M} {a b : Nat} {c0 : dc_M} {x0 : Nat} {x1 : Nat} {x2 : Int32} {x3 : Int32} {x4 : Int32} {x5 : Int32} {x6 : Int32} {u : ((Int32 × dc_M) ⊕ dc_M)} (hx : x0 = 12 ∨ x0 = 71) (hD : CP a b c0 m) (h : d_X0_addTakenBack_b63 x0 x1 x2 x3 x4 x5 x6 m = some u) : (∀ s', u = .inl s' → CP a b c0 (s'.2)) ∧ (∀ e, u = .inr e → CP a b c0 e) := by
  unfold d_X0_addTakenBack_b63 at h
  cases h
  exact ⟨fun _ q => (by cases q; exact (cp_wi (cp_wi (cp_wi (cp_wi hD (fun q => by first | exact hx q _ | (unfold cpc; omega))) (fun q => by first | exact hx q _ | (unfold cpc; omega))) (fun q => by first | exact hx q _ | (unfold cpc; omega))) (fun q => by first | exact hx q _ | (unfold cpc; omega)))), fun _ q => (by cases q)⟩
theorem cp_X0_addTakenBack_l3 {m : dc_M} {a b : Nat} {c0 : dc_M} {x0 : Nat} {x1 : Nat} {x2 : Int32} {x3 : Int32} {x4 : Int32} {x5 : Int32} {x6 : Int32} {e : dc_M} (hx : x0 = 12 ∨ x0 = 71) (hD : CP a b c0 m) (h : d_X0_addTakenBack_l3 x0 x1 x2 x3 x4 x5 x6 m = some e) : CP a b c0 e := by
  unfold d_X0_addTakenBack_l3 at h
  refine dc_lp_inv (fun s => CP a b c0 (s.2)) (fun e => CP a b c0 e) (fun s s' hI e1 => ?_) (fun s e' hI e1 => ?_) hD h
  · unfold d_X0_addTakenBack_l3s d_X0_addTakenBack_l3b at e1
    by_cases c1 : (Int32.toInt (s.2.1 x1 1)) ≤ (Int32.toInt s.1)
    · rw [if_pos c1] at e1
      cases e1
    · rw [if_neg c1] at e1
      by_cases c2 : (Int32.toInt ((x3 >>> (s.1 &&& 31)) &&& (1 : Int32))) = 0
      · rw [if_pos c2] at e1
        cases e1
        exact hI
      · rw [if_neg c2] at e1
        by_cases c3 : ¬ (Int32.toInt ((x2 >>> ((s.2.1 (x1 + 3) (Int32.toNatClampNeg s.1)) &&& 31)) &&& (1 : Int32))) = 0
        · rw [if_pos c3] at e1
          by_cases c4 : (Int32.toInt (s.2.1 x0 4)) = 0
          · rw [if_pos c4] at e1
            exact (cp_X0_addTakenBack_b63 hx hI e1).1 _ rfl
          · rw [if_neg c4] at e1
            by_cases c5 : ¬ (Int32.toInt x4) = (Int32.toInt (s.2.1 x0 5))
            · rw [if_pos c5] at e1
              cases e1
              exact (cp_wi hI (fun q => by first | exact hx q _ | (unfold cpc; omega)))
            · rw [if_neg c5] at e1
              by_cases c6 : (Int32.toInt (s.2.1 x0 6)) ≤ (Int32.toInt s.1)
              · rw [if_pos c6] at e1
                cases e1
                exact (cp_wi hI (fun q => by first | exact hx q _ | (unfold cpc; omega)))
              · rw [if_neg c6] at e1
                exact (cp_X0_addTakenBack_b63 hx hI e1).1 _ rfl
        · rw [if_neg c3] at e1
          cases e1
          exact hI
  · unfold d_X0_addTakenBack_l3s d_X0_addTakenBack_l3b at e1
    by_cases c1 : (Int32.toInt (s.2.1 x1 1)) ≤ (Int32.toInt s.1)
    · rw [if_pos c1] at e1
      cases e1
      exact hI
    · rw [if_neg c1] at e1
      by_cases c2 : (Int32.toInt ((x3 >>> (s.1 &&& 31)) &&& (1 : Int32))) = 0
      · rw [if_pos c2] at e1
        cases e1
      · rw [if_neg c2] at e1
        by_cases c3 : ¬ (Int32.toInt ((x2 >>> ((s.2.1 (x1 + 3) (Int32.toNatClampNeg s.1)) &&& 31)) &&& (1 : Int32))) = 0
        · rw [if_pos c3] at e1
          by_cases c4 : (Int32.toInt (s.2.1 x0 4)) = 0
          · rw [if_pos c4] at e1
            exact (cp_X0_addTakenBack_b63 hx hI e1).2 _ rfl
          · rw [if_neg c4] at e1
            by_cases c5 : ¬ (Int32.toInt x4) = (Int32.toInt (s.2.1 x0 5))
            · rw [if_pos c5] at e1
              cases e1
            · rw [if_neg c5] at e1
              by_cases c6 : (Int32.toInt (s.2.1 x0 6)) ≤ (Int32.toInt s.1)
              · rw [if_pos c6] at e1
                cases e1
              · rw [if_neg c6] at e1
                exact (cp_X0_addTakenBack_b63 hx hI e1).2 _ rfl
        · rw [if_neg c3] at e1
          cases e1
theorem cp_X0_addTakenBack {m : dc_M} {a b : Nat} {c0 : dc_M} {x0 : Nat} {x1 : Nat} {x2 : Int32} {x3 : Int32} {x4 : Int32} {x5 : Int32} {e : dc_M} (hx : x0 = 12 ∨ x0 = 71) (hD : CP a b c0 m) (h : d_X0_addTakenBack x0 x1 x2 x3 x4 x5 m = some e) : CP a b c0 e := by
  unfold d_X0_addTakenBack at h
  exact cp_X0_addTakenBack_l3 hx hD h
theorem cp_X0_findTakenBack_l38 {m : dc_M} {a b : Nat} {c0 : dc_M} {x0 : Nat} {x1 : Nat} {x2 : Int32} {x3 : Nat} {x4 : Int32} {x5 : Int32} {u : ((Int32 × dc_M) ⊕ dc_M)} (hx : x0 = 12 ∨ x0 = 71) (hD : CP a b c0 m) (h : d_X0_findTakenBack_l38 x0 x1 x2 x3 x4 x5 m = some u) : (∀ s', u = .inl s' → CP a b c0 (s'.2)) ∧ (∀ e, u = .inr e → CP a b c0 e) := by
  unfold d_X0_findTakenBack_l38 at h
  refine dc_lp_inv (fun s => CP a b c0 (s.2)) (fun u => (∀ s', u = .inl s' → CP a b c0 (s'.2)) ∧ (∀ e, u = .inr e → CP a b c0 e)) (fun s s' hI e1 => ?_) (fun s e' hI e1 => ?_) hD h
  · unfold d_X0_findTakenBack_l38s d_X0_findTakenBack_l38b at e1
    by_cases c1 : (Int32.toInt (s.2.1 x1 1)) ≤ (Int32.toInt s.1)
    · rw [if_pos c1] at e1
      cases e1
    · rw [if_neg c1] at e1
      by_cases c2 : 0 ≤ (Int32.toInt (d_X7_behind x3 x4 s.1 s.2))
      · rw [if_pos c2] at e1
        by_cases c3 : (Int32.toInt ((((s.2.1 (x3 + 4) (Int32.toNatClampNeg x4)) &&& ((s.2.1 (x3 + 4) (Int32.toNatClampNeg (d_X7_behind x3 x4 s.1 s.2))) ^^^ (-1 : Int32))) &&& x2) &&& (((1 : Int32) <<< ((s.2.1 (x1 + 3) (Int32.toNatClampNeg s.1)) &&& 31)) ^^^ (-1 : Int32)))) = 0
        · rw [if_pos c3] at e1
          cases e1
          exact hI
        · rw [if_neg c3] at e1
          cases hq1 : (d_X0_addTakenBack x0 x1 ((((s.2.1 (x3 + 4) (Int32.toNatClampNeg x4)) &&& ((s.2.1 (x3 + 4) (Int32.toNatClampNeg (d_X7_behind x3 x4 s.1 s.2))) ^^^ (-1 : Int32))) &&& x2) &&& (((1 : Int32) <<< ((s.2.1 (x1 + 3) (Int32.toNatClampNeg s.1)) &&& 31)) ^^^ (-1 : Int32))) (s.2.1 (x3 + 2) (Int32.toNatClampNeg x4)) x4 s.1 s.2) with
          | none => rw [hq1] at e1; cases e1
          | some q1 =>
            rw [hq1, Option.bind_some] at e1
            have dq1 := cp_X0_addTakenBack hx hI hq1
            cases e1
            exact dq1
      · rw [if_neg c2] at e1
        cases e1
        exact hI
  · unfold d_X0_findTakenBack_l38s d_X0_findTakenBack_l38b at e1
    by_cases c1 : (Int32.toInt (s.2.1 x1 1)) ≤ (Int32.toInt s.1)
    · rw [if_pos c1] at e1
      cases e1
      exact ⟨fun _ q => (by cases q; exact hI), fun _ q => (by cases q)⟩
    · rw [if_neg c1] at e1
      by_cases c2 : 0 ≤ (Int32.toInt (d_X7_behind x3 x4 s.1 s.2))
      · rw [if_pos c2] at e1
        by_cases c3 : (Int32.toInt ((((s.2.1 (x3 + 4) (Int32.toNatClampNeg x4)) &&& ((s.2.1 (x3 + 4) (Int32.toNatClampNeg (d_X7_behind x3 x4 s.1 s.2))) ^^^ (-1 : Int32))) &&& x2) &&& (((1 : Int32) <<< ((s.2.1 (x1 + 3) (Int32.toNatClampNeg s.1)) &&& 31)) ^^^ (-1 : Int32)))) = 0
        · rw [if_pos c3] at e1
          cases e1
        · rw [if_neg c3] at e1
          cases hq1 : (d_X0_addTakenBack x0 x1 ((((s.2.1 (x3 + 4) (Int32.toNatClampNeg x4)) &&& ((s.2.1 (x3 + 4) (Int32.toNatClampNeg (d_X7_behind x3 x4 s.1 s.2))) ^^^ (-1 : Int32))) &&& x2) &&& (((1 : Int32) <<< ((s.2.1 (x1 + 3) (Int32.toNatClampNeg s.1)) &&& 31)) ^^^ (-1 : Int32))) (s.2.1 (x3 + 2) (Int32.toNatClampNeg x4)) x4 s.1 s.2) with
          | none => rw [hq1] at e1; cases e1
          | some q1 =>
            rw [hq1, Option.bind_some] at e1
            have dq1 := cp_X0_addTakenBack hx hI hq1
            cases e1
      · rw [if_neg c2] at e1
        cases e1
theorem cp_X0_findTakenBack_l26 {m : dc_M} {a b : Nat} {c0 : dc_M} {x0 : Nat} {x1 : Nat} {x2 : Int32} {x3 : Nat} {x4 : Int32} {e : dc_M} (hx : x0 = 12 ∨ x0 = 71) (hD : CP a b c0 m) (h : d_X0_findTakenBack_l26 x0 x1 x2 x3 x4 m = some e) : CP a b c0 e := by
  unfold d_X0_findTakenBack_l26 at h
  refine dc_lp_inv (fun s => CP a b c0 (s.2)) (fun e => CP a b c0 e) (fun s s' hI e1 => ?_) (fun s e' hI e1 => ?_) hD h
  · unfold d_X0_findTakenBack_l26s d_X0_findTakenBack_l26b at e1
    by_cases c1 : (Int32.toInt (s.2.1 x3 0)) ≤ (Int32.toInt s.1)
    · rw [if_pos c1] at e1
      cases e1
    · rw [if_neg c1] at e1
      exact (cp_X0_findTakenBack_l38 hx hI e1).1 _ rfl
  · unfold d_X0_findTakenBack_l26s d_X0_findTakenBack_l26b at e1
    by_cases c1 : (Int32.toInt (s.2.1 x3 0)) ≤ (Int32.toInt s.1)
    · rw [if_pos c1] at e1
      cases e1
      exact hI
    · rw [if_neg c1] at e1
      exact (cp_X0_findTakenBack_l38 hx hI e1).2 _ rfl
theorem cp_X0_findTakenBack {m : dc_M} {a b : Nat} {c0 : dc_M} {x0 : Nat} {x1 : Nat} {x2 : Int32} {x3 : Nat} {e : dc_M} (hx : x0 = 12 ∨ x0 = 71) (hD : CP a b c0 m) (h : d_X0_findTakenBack x0 x1 x2 x3 m = some e) : CP a b c0 e := by
  unfold d_X0_findTakenBack at h
  exact cp_X0_findTakenBack_l26 hx (cp_wi (cp_wi (cp_wi (cp_wi hD (fun q => by first | exact hx q _ | (unfold cpc; omega))) (fun q => by first | exact hx q _ | (unfold cpc; omega))) (fun q => by first | exact hx q _ | (unfold cpc; omega))) (fun q => by first | exact hx q _ | (unfold cpc; omega))) h
theorem cp_X0_find {m : dc_M} {a b : Nat} {c0 : dc_M} {x0 : Nat} {x1 : Nat} {x2 : Nat} {e : dc_M} (hx : x0 = 12 ∨ x0 = 71) (hD : CP a b c0 m) (h : d_X0_find x0 x1 x2 m = some e) : CP a b c0 e := by
  unfold d_X0_find at h
  cases hq1 : (d_X3_madeWires x1 m) with
  | none => rw [hq1] at h; cases h
  | some q1 =>
    rw [hq1, Option.bind_some] at h
    cases hq2 : (d_X0_findQuarrels x0 q1 x2 m) with
    | none => rw [hq2] at h; cases h
    | some q2 =>
      rw [hq2, Option.bind_some] at h
      have dq2 := cp_X0_findQuarrels hx hD hq2
      cases hq3 : (d_X0_findTakenBack x0 x1 q1 x2 q2) with
      | none => rw [hq3] at h; cases h
      | some q3 =>
        rw [hq3, Option.bind_some] at h
        have dq3 := cp_X0_findTakenBack hx dq2 hq3
        cases h
        exact dq3
theorem cp_X3_addEvent {m : dc_M} {a b : Nat} {c0 : dc_M} {x0 : Nat} {x1 : Int32} {x2 : Int32} {x3 : Int32} (hx : x0 = b) (hD : CP a b c0 m) : CP a b c0 ((d_X3_addEvent x0 x1 x2 x3 m).2) := by
  unfold d_X3_addEvent
  by_cases c1 : (Int32.toInt (m.1 x0 1)) < 16
  · rw [if_pos c1]
    exact (cp_wi (cp_wi (cp_wi (cp_wi (cp_wi (cp_wi (cp_wi hD (fun q => by unfold cpc; omega)) (fun q => by unfold cpc; omega)) (fun q => by unfold cpc; omega)) (fun q => by unfold cpc; omega)) (fun q => by unfold cpc; omega)) (fun q => by unfold cpc; omega)) (fun q => by first | exact hx q _ | (unfold cpc; omega)))
  · rw [if_neg c1]
    exact hD
theorem cp_X3_addWire {m : dc_M} {a b : Nat} {c0 : dc_M} {x0 : Nat} {x1 : Int32} {x2 : Int32} (hx : x0 = b) (hD : CP a b c0 m) : CP a b c0 ((d_X3_addWire x0 x1 x2 m).2) := by
  unfold d_X3_addWire
  by_cases c1 : (Int32.toInt (m.1 x0 0)) < 6
  · rw [if_pos c1]
    exact (cp_wi (cp_wi (cp_wi hD (fun q => by unfold cpc; omega)) (fun q => by unfold cpc; omega)) (fun q => by first | exact hx q _ | (unfold cpc; omega)))
  · rw [if_neg c1]
    exact hD
theorem cp_X3_addPlace_b88 {m : dc_M} {a b : Nat} {c0 : dc_M} {x0 : Nat} {x1 : Int32} {x2 : Int32} {x4 : Int32} {x5 : Int32} {s0 : Int32} {s1 : Int32} {s2 : Int32} {u : ((Int32 × dc_M) ⊕ dc_M)} (hx : x0 = b) (hD : CP a b c0 m) (h : d_X3_addPlace_b88 x0 x1 x2 x4 x5 s0 s1 s2 (x0 + 7) m = some u) : (∀ s', u = .inl s' → CP a b c0 (s'.2)) ∧ (∀ e, u = .inr e → CP a b c0 e) := by
  unfold d_X3_addPlace_b88 at h
  by_cases c1 : (Int32.toInt ((x2 >>> (x5 &&& 31)) &&& (1 : Int32))) = 0
  · rw [if_pos c1] at h
    cases h
    exact ⟨fun _ q => (by cases q; exact (cp_wi (cp_wi hD (fun q => by unfold cpc; omega)) (fun q => by unfold cpc; omega))), fun _ q => (by cases q)⟩
  · rw [if_neg c1] at h
    cases h
    exact ⟨fun _ q => (by cases q; exact (cp_wi (cp_wi hD (fun q => by unfold cpc; omega)) (fun q => by unfold cpc; omega))), fun _ q => (by cases q)⟩
theorem cp_X3_addPlace_l56 {m : dc_M} {a b : Nat} {c0 : dc_M} {x0 : Nat} {x1 : Int32} {x2 : Int32} {x4 : Int32} {x5 : Int32} {e : dc_M} (hx : x0 = b) (hD : CP a b c0 m) (h : d_X3_addPlace_l56 x0 x1 x2 x4 x5 m = some e) : CP a b c0 e := by
  unfold d_X3_addPlace_l56 at h
  refine dc_lp_inv (fun s => CP a b c0 (s.2)) (fun e => CP a b c0 e) (fun s s' hI e1 => ?_) (fun s e' hI e1 => ?_) hD h
  · unfold d_X3_addPlace_l56s d_X3_addPlace_l56b at e1
    by_cases c1 : (Int32.toInt (s.2.1 x0 1)) ≤ (Int32.toInt s.1)
    · rw [if_pos c1] at e1
      cases e1
    · rw [if_neg c1] at e1
      by_cases c2 : (Int32.toInt ((x1 >>> (s.1 &&& 31)) &&& (1 : Int32))) = 0
      · rw [if_pos c2] at e1
        exact (cp_X3_addPlace_b88 hx hI e1).1 _ rfl
      · rw [if_neg c2] at e1
        exact (cp_X3_addPlace_b88 hx hI e1).1 _ rfl
  · unfold d_X3_addPlace_l56s d_X3_addPlace_l56b at e1
    by_cases c1 : (Int32.toInt (s.2.1 x0 1)) ≤ (Int32.toInt s.1)
    · rw [if_pos c1] at e1
      cases e1
      exact (cp_wi hI (fun q => by first | exact hx q _ | (unfold cpc; omega)))
    · rw [if_neg c1] at e1
      by_cases c2 : (Int32.toInt ((x1 >>> (s.1 &&& 31)) &&& (1 : Int32))) = 0
      · rw [if_pos c2] at e1
        exact (cp_X3_addPlace_b88 hx hI e1).2 _ rfl
      · rw [if_neg c2] at e1
        exact (cp_X3_addPlace_b88 hx hI e1).2 _ rfl
theorem cp_X3_addPlace {m : dc_M} {a b : Nat} {c0 : dc_M} {x0 : Nat} {x1 : Int32} {x2 : Int32} {x3 : Int32} {e : dc_M} (hx : x0 = b) (hD : CP a b c0 m) (h : d_X3_addPlace x0 x1 x2 x3 m = some e) : CP a b c0 e := by
  unfold d_X3_addPlace at h
  by_cases c1 : (Int32.toInt (m.1 x0 2)) < 20
  · rw [if_pos c1] at h
    exact cp_X3_addPlace_l56 hx (cp_wi (cp_wi (cp_wi hD (fun q => by unfold cpc; omega)) (fun q => by unfold cpc; omega)) (fun q => by first | exact hx q _ | (unfold cpc; omega))) h
  · rw [if_neg c1] at h
    cases h
    exact hD
theorem cp_X3_handOver_b51 {m : dc_M} {a b : Nat} {c0 : dc_M} {x0 : Nat} {x1 : Int32} {x2 : Int32} {e : dc_M} (hx : x0 = b) (hD : CP a b c0 m) (h : d_X3_handOver_b51 x0 x1 x2 m = some e) : CP a b c0 e := by
  unfold d_X3_handOver_b51 at h
  cases hq1 : (d_X3_addPlace x0 ((1 : Int32) <<< (x1 &&& 31)) ((1 : Int32) <<< (x2 &&& 31)) (0 : Int32) (dc_wi (dc_wi m (x0 + 7) (Int32.toNatClampNeg x2) (m.1 (x0 + 7) (Int32.toNatClampNeg x1))) (x0 + 7) (Int32.toNatClampNeg x1) (0 : Int32))) with
  | none => rw [hq1] at h; cases h
  | some q1 =>
    rw [hq1, Option.bind_some] at h
    have dq1 := cp_X3_addPlace hx (cp_wi (cp_wi hD (fun q => by unfold cpc; omega)) (fun q => by unfold cpc; omega)) hq1
    cases h
    exact dq1
theorem cp_X3_handOver_l2 {m : dc_M} {a b : Nat} {c0 : dc_M} {x0 : Nat} {x1 : Int32} {x2 : Int32} {x3 : Int32} {e : dc_M} (hx : x0 = b) (hD : CP a b c0 m) (h : d_X3_handOver_l2 x0 x1 x2 x3 m = some e) : CP a b c0 e := by
  unfold d_X3_handOver_l2 at h
  refine dc_lp_inv (fun s => CP a b c0 (s.2)) (fun e => CP a b c0 e) (fun s s' hI e1 => ?_) (fun s e' hI e1 => ?_) hD h
  · unfold d_X3_handOver_l2s d_X3_handOver_l2b at e1
    by_cases c1 : (Int32.toInt (s.2.1 x0 2)) ≤ (Int32.toInt s.1)
    · rw [if_pos c1] at e1
      cases hz : d_X3_handOver_b51 x0 x1 x2 s.2 with
      | none => rw [hz] at e1; cases e1
      | some z =>
        rw [hz] at e1
        cases e1
    · rw [if_neg c1] at e1
      by_cases c2 : (Int32.toInt (((s.2.1 (x0 + 9) (Int32.toNatClampNeg s.1)) >>> (x1 &&& 31)) &&& (1 : Int32))) = 0
      · rw [if_pos c2] at e1
        cases e1
        exact hI
      · rw [if_neg c2] at e1
        cases e1
        exact (cp_wi hI (fun q => by unfold cpc; omega))
  · unfold d_X3_handOver_l2s d_X3_handOver_l2b at e1
    by_cases c1 : (Int32.toInt (s.2.1 x0 2)) ≤ (Int32.toInt s.1)
    · rw [if_pos c1] at e1
      cases hz : d_X3_handOver_b51 x0 x1 x2 s.2 with
      | none => rw [hz] at e1; cases e1
      | some z =>
        rw [hz] at e1
        cases e1
        exact cp_X3_handOver_b51 hx hI hz
    · rw [if_neg c1] at e1
      by_cases c2 : (Int32.toInt (((s.2.1 (x0 + 9) (Int32.toNatClampNeg s.1)) >>> (x1 &&& 31)) &&& (1 : Int32))) = 0
      · rw [if_pos c2] at e1
        cases e1
      · rw [if_neg c2] at e1
        cases e1
theorem cp_X3_handOver {m : dc_M} {a b : Nat} {c0 : dc_M} {x0 : Nat} {x1 : Int32} {x2 : Int32} {e : dc_M} (hx : x0 = b) (hD : CP a b c0 m) (h : d_X3_handOver x0 x1 x2 m = some e) : CP a b c0 e := by
  unfold d_X3_handOver at h
  exact cp_X3_handOver_l2 hx hD h
theorem cp_X3_addWireBehind {m : dc_M} {a b : Nat} {c0 : dc_M} {x0 : Nat} {x1 : Int32} {x2 : Int32} {e : dc_M} (hx : x0 = b) (hD : CP a b c0 m) (h : d_X3_addWireBehind x0 x1 x2 m = some e) : CP a b c0 e := by
  unfold d_X3_addWireBehind at h
  cases hq1 : (d_X3_freeLetter x0 m) with
  | none => rw [hq1] at h; cases h
  | some q1 =>
    rw [hq1, Option.bind_some] at h
    have dq2 : CP a b c0 ((d_X3_addWire x0 q1 (2 : Int32) m).2) := cp_X3_addWire hx hD
    generalize (d_X3_addWire x0 q1 (2 : Int32) m) = q2 at h dq2
    rw [dc_let_eq] at h
    have dq3 : CP a b c0 ((d_X3_addEvent x0 q2.1 (1 : Int32) (0 : Int32) q2.2).2) := cp_X3_addEvent hx dq2
    generalize (d_X3_addEvent x0 q2.1 (1 : Int32) (0 : Int32) q2.2) = q3 at h dq3
    rw [dc_let_eq] at h
    have dq4 : CP a b c0 ((d_X3_addEvent x0 q2.1 (0 : Int32) (0 : Int32) q3.2).2) := cp_X3_addEvent hx dq3
    generalize (d_X3_addEvent x0 q2.1 (0 : Int32) (0 : Int32) q3.2) = q4 at h dq4
    rw [dc_let_eq] at h
    by_cases c1 : (Int32.toInt q3.1) < 0
    · rw [if_pos c1] at h
      cases h
      exact dq4
    · rw [if_neg c1] at h
      by_cases c2 : (Int32.toInt q4.1) < 0
      · rw [if_pos c2] at h
        cases h
        exact dq4
      · rw [if_neg c2] at h
        cases hq5 : (d_X3_handOver x0 x1 q3.1 q4.2) with
        | none => rw [hq5] at h; cases h
        | some q5 =>
          rw [hq5, Option.bind_some] at h
          have dq5 := cp_X3_handOver hx dq4 hq5
          cases hq6 : (d_X3_handOver x0 x2 q4.1 q5) with
          | none => rw [hq6] at h; cases h
          | some q6 =>
            rw [hq6, Option.bind_some] at h
            have dq6 := cp_X3_handOver hx dq5 hq6
            cases h
            exact dq6
theorem cp_X3_copyFrom {m : dc_M} {a b : Nat} {c0 : dc_M} {x0 : Nat} {x1 : Nat} (hx : x0 = b) (hD : CP a b c0 m) : CP a b c0 ((d_X3_copyFrom x0 x1 m)) := by
  unfold d_X3_copyFrom
  exact (cp_cp (cp_cp (cp_cp (cp_cp (cp_cp (cp_cp (cp_cp (cp_cp (cp_cp (cp_cp (cp_wi (cp_wi (cp_wi (cp_wi hD (fun q => by first | exact hx q _ | (unfold cpc; omega))) (fun q => by first | exact hx q _ | (unfold cpc; omega))) (fun q => by first | exact hx q _ | (unfold cpc; omega))) (fun q => by first | exact hx q _ | (unfold cpc; omega))) (fun q k => by unfold cpc; omega)) (fun q k => by unfold cpc; omega)) (fun q k => by unfold cpc; omega)) (fun q k => by unfold cpc; omega)) (fun q k => by unfold cpc; omega)) (fun q k => by unfold cpc; omega)) (fun q k => by unfold cpc; omega)) (fun q k => by unfold cpc; omega)) (fun q k => by unfold cpc; omega)) (fun q k => by unfold cpc; omega))
theorem cp_X7_meet_b65 {m : dc_M} {a b : Nat} {c0 : dc_M} {x0 : Nat} {x1 : Int32} {x2 : Int32} {x3 : Int32} {e : (Int32 × dc_M)} (hx : x0 = 63) (hD : CP a b c0 m) (h : d_X7_meet_b65 x0 x1 x2 x3 m = some e) : CP a b c0 (e.2) := by
  unfold d_X7_meet_b65 at h
  by_cases c1 : (Int32.toInt (m.1 x0 0)) < 200
  · rw [if_pos c1] at h
    cases h
    exact (cp_wi (cp_wi (cp_wi (cp_wi hD (fun q => by unfold cpc; omega)) (fun q => by unfold cpc; omega)) (fun q => by unfold cpc; omega)) (fun q => by first | exact hx q _ | (unfold cpc; omega)))
  · rw [if_neg c1] at h
    cases h
    exact hD
theorem cp_X7_meet_l11 {m : dc_M} {a b : Nat} {c0 : dc_M} {x0 : Nat} {x1 : Int32} {x2 : Int32} {x3 : Int32} {x4 : Int32} {e : (Int32 × dc_M)} (hx : x0 = 63) (hD : CP a b c0 m) (h : d_X7_meet_l11 x0 x1 x2 x3 x4 m = some e) : CP a b c0 (e.2) := by
  unfold d_X7_meet_l11 at h
  refine dc_lp_inv (fun s => CP a b c0 m) (fun e => CP a b c0 (e.2)) (fun s s' hI e1 => ?_) (fun s e' hI e1 => ?_) hD h
  · exact hI
  · unfold d_X7_meet_l11s d_X7_meet_l11b at e1
    by_cases c1 : 512 ≤ (Int32.toInt s.2)
    · rw [if_pos c1] at e1
      cases hz : d_X7_meet_b65 x0 x1 x2 s.1 m with
      | none => rw [hz] at e1; cases e1
      | some z =>
        rw [hz] at e1
        cases e1
        exact cp_X7_meet_b65 hx hI hz
    · rw [if_neg c1] at e1
      by_cases c2 : 0 ≤ (Int32.toInt ((m.1 (x0 + 6) (Int32.toNatClampNeg s.1)) - (1 : Int32)))
      · rw [if_pos c2] at e1
        by_cases c3 : ¬ (Int32.toInt (m.1 (x0 + 1) (Int32.toNatClampNeg ((m.1 (x0 + 6) (Int32.toNatClampNeg s.1)) - (1 : Int32))))) = (Int32.toInt x1)
        · rw [if_pos c3] at e1
          cases e1
        · rw [if_neg c3] at e1
          cases e1
          exact hI
      · rw [if_neg c2] at e1
        cases hz : d_X7_meet_b65 x0 x1 x2 s.1 m with
        | none => rw [hz] at e1; cases e1
        | some z =>
          rw [hz] at e1
          cases e1
          exact cp_X7_meet_b65 hx hI hz
theorem cp_X7_meet {m : dc_M} {a b : Nat} {c0 : dc_M} {x0 : Nat} {x1 : Int32} {x2 : Int32} {e : (Int32 × dc_M)} (hx : x0 = 63) (hD : CP a b c0 m) (h : d_X7_meet x0 x1 x2 m = some e) : CP a b c0 (e.2) := by
  unfold d_X7_meet at h
  exact cp_X7_meet_l11 hx hD h
theorem cp_X7_expand_b136 {m : dc_M} {a b : Nat} {c0 : dc_M} {x0 : Nat} {x2 : Int32} {x4 : Int32} {x5 : Int32} {e : dc_M} (hx : x0 = 63) (hD : CP a b c0 m) (h : d_X7_expand_b136 x0 x2 x4 x5 m = some e) : CP a b c0 e := by
  unfold d_X7_expand_b136 at h
  cases h
  exact (cp_wi (cp_wi (cp_wi hD (fun q => by unfold cpc; omega)) (fun q => by unfold cpc; omega)) (fun q => by first | exact hx q _ | (unfold cpc; omega)))
theorem cp_X7_expand_l16 {m : dc_M} {a b : Nat} {c0 : dc_M} {x0 : Nat} {x1 : Nat} {x2 : Int32} {x3 : Int32} {x4 : Int32} {x5 : Int32} {x6 : Int32} {e : dc_M} (hx : x0 = 63) (hD : CP a b c0 m) (h : d_X7_expand_l16 x0 x1 x2 x3 x4 x5 x6 m = some e) : CP a b c0 e := by
  unfold d_X7_expand_l16 at h
  refine dc_lp_inv (fun s => CP a b c0 (s.2.2.2)) (fun e => CP a b c0 e) (fun s s' hI e1 => ?_) (fun s e' hI e1 => ?_) hD h
  · unfold d_X7_expand_l16s d_X7_expand_l16b at e1
    by_cases c1 : (Int32.toInt (s.2.2.2.1 x1 1)) ≤ (Int32.toInt s.2.2.1)
    · rw [if_pos c1] at e1
      cases hz : d_X7_expand_b136 x0 x2 s.1 s.2.1 s.2.2.2 with
      | none => rw [hz] at e1; cases e1
      | some z =>
        rw [hz] at e1
        cases e1
    · rw [if_neg c1] at e1
      by_cases c2 : ¬ (Int32.toInt (d_X3_isReady x1 x3 s.2.2.1 s.2.2.2)) = 0
      · rw [if_pos c2] at e1
        by_cases c3 : (Int32.toInt (d_X3_isUnsafe x1 x3 s.2.2.1 s.2.2.2)) = 0
        · rw [if_pos c3] at e1
          cases hq1 : (d_X7_meet x0 (d_X3_after x1 x3 s.2.2.1 s.2.2.2) ((s.2.2.2.1 (x0 + 3) (Int32.toNatClampNeg x2)) ^^^ ((1 : Int32) <<< ((s.2.2.2.1 (x1 + 3) (Int32.toNatClampNeg s.2.2.1)) &&& 31))) s.2.2.2) with
          | none => rw [hq1] at e1; cases e1
          | some q1 =>
            rw [hq1, Option.bind_some] at e1
            have dq1 := cp_X7_meet hx hI hq1
            by_cases c4 : 0 ≤ (Int32.toInt q1.1)
            · rw [if_pos c4] at e1
              cases e1
              exact (cp_wi dq1 (fun q => by unfold cpc; omega))
            · rw [if_neg c4] at e1
              cases e1
        · rw [if_neg c3] at e1
          cases e1
      · rw [if_neg c2] at e1
        cases e1
        exact hI
  · unfold d_X7_expand_l16s d_X7_expand_l16b at e1
    by_cases c1 : (Int32.toInt (s.2.2.2.1 x1 1)) ≤ (Int32.toInt s.2.2.1)
    · rw [if_pos c1] at e1
      cases hz : d_X7_expand_b136 x0 x2 s.1 s.2.1 s.2.2.2 with
      | none => rw [hz] at e1; cases e1
      | some z =>
        rw [hz] at e1
        cases e1
        exact cp_X7_expand_b136 hx hI hz
    · rw [if_neg c1] at e1
      by_cases c2 : ¬ (Int32.toInt (d_X3_isReady x1 x3 s.2.2.1 s.2.2.2)) = 0
      · rw [if_pos c2] at e1
        by_cases c3 : (Int32.toInt (d_X3_isUnsafe x1 x3 s.2.2.1 s.2.2.2)) = 0
        · rw [if_pos c3] at e1
          cases hq1 : (d_X7_meet x0 (d_X3_after x1 x3 s.2.2.1 s.2.2.2) ((s.2.2.2.1 (x0 + 3) (Int32.toNatClampNeg x2)) ^^^ ((1 : Int32) <<< ((s.2.2.2.1 (x1 + 3) (Int32.toNatClampNeg s.2.2.1)) &&& 31))) s.2.2.2) with
          | none => rw [hq1] at e1; cases e1
          | some q1 =>
            rw [hq1, Option.bind_some] at e1
            have dq1 := cp_X7_meet hx hI hq1
            by_cases c4 : 0 ≤ (Int32.toInt q1.1)
            · rw [if_pos c4] at e1
              cases e1
            · rw [if_neg c4] at e1
              cases e1
              exact (cp_wi dq1 (fun q => by first | exact hx q _ | (unfold cpc; omega)))
        · rw [if_neg c3] at e1
          cases e1
          exact (cp_wi hI (fun q => by first | exact hx q _ | (unfold cpc; omega)))
      · rw [if_neg c2] at e1
        cases e1
theorem cp_X7_expand {m : dc_M} {a b : Nat} {c0 : dc_M} {x0 : Nat} {x1 : Nat} {x2 : Int32} {e : dc_M} (hx : x0 = 63) (hD : CP a b c0 m) (h : d_X7_expand x0 x1 x2 m = some e) : CP a b c0 e := by
  unfold d_X7_expand at h
  exact cp_X7_expand_l16 hx hD h
theorem cp_X7_tellLevels_l163 {m : dc_M} {a b : Nat} {c0 : dc_M} {x0 : Nat} {x3 : Int32} {x4 : Int32} {e : (Int32 × dc_M)} (hx : x0 = 63) (hD : CP a b c0 m) (h : d_X7_tellLevels_l163 x0 x3 x4 m = some e) : CP a b c0 (e.2) := by
  unfold d_X7_tellLevels_l163 at h
  refine dc_lp_inv (fun s => CP a b c0 (s.2)) (fun e => CP a b c0 (e.2)) (fun s s' hI e1 => ?_) (fun s e' hI e1 => ?_) hD h
  · unfold d_X7_tellLevels_l163s d_X7_tellLevels_l163b at e1
    by_cases c1 : (Int32.toInt (s.2.1 x0 0)) ≤ (Int32.toInt s.1)
    · rw [if_pos c1] at e1
      cases e1
    · rw [if_neg c1] at e1
      cases e1
      exact (cp_wi hI (fun q => by unfold cpc; omega))
  · unfold d_X7_tellLevels_l163s d_X7_tellLevels_l163b at e1
    by_cases c1 : (Int32.toInt (s.2.1 x0 0)) ≤ (Int32.toInt s.1)
    · rw [if_pos c1] at e1
      cases e1
      exact hI
    · rw [if_neg c1] at e1
      cases e1
theorem cp_X7_tellLevels_b107 {m : dc_M} {a b : Nat} {c0 : dc_M} {x0 : Nat} {x1 : Nat} {x2 : Int32} {x3 : Int32} {x4 : Int32} {x5 : Int32} {x6 : Int32} {s0 : Int32} {u : ((Int32 × Int32 × Int32) ⊕ ((Int32 × Int32 × Int32) ⊕ (Int32 × dc_M)))} (hx : x0 = 63) (hD : CP a b c0 m) (h : d_X7_tellLevels_b107 x0 x1 x2 x3 x4 x5 x6 s0 m = some u) : (∀ s', u = .inl s' → CP a b c0 m) ∧ (∀ s', u = Sum.inr (Sum.inl s') → CP a b c0 m) ∧ (∀ e, u = Sum.inr (Sum.inr e) → CP a b c0 (e.2)) := by
  unfold d_X7_tellLevels_b107 at h
  by_cases c1 : (Int32.toInt (x2 &&& x6)) = 0
  · rw [if_pos c1] at h
    cases h
    exact ⟨fun _ q => (by cases q; exact hD), fun _ q => (by cases q), fun _ q => (by cases q)⟩
  · rw [if_neg c1] at h
    by_cases c2 : (Int32.toInt (x3 &&& x6)) = (Int32.toInt (s0 ^^^ ((m.1 (x0 + 3) (Int32.toNatClampNeg x4)) &&& x6)))
    · rw [if_pos c2] at h
      cases h
      exact ⟨fun _ q => (by cases q; exact hD), fun _ q => (by cases q), fun _ q => (by cases q)⟩
    · rw [if_neg c2] at h
      cases h
      exact ⟨fun _ q => (by cases q), fun _ q => (by cases q), fun _ q => (by cases q; exact hD)⟩
theorem cp_X7_tellLevels_l19 {m : dc_M} {a b : Nat} {c0 : dc_M} {x0 : Nat} {x1 : Nat} {x2 : Int32} {x3 : Int32} {x4 : Int32} {x5 : Int32} {u : ((Int32 × Int32 × Int32) ⊕ (Int32 × dc_M))} (hx : x0 = 63) (hD : CP a b c0 m) (h : d_X7_tellLevels_l19 x0 x1 x4 x2 x3 x5 m = some u) : (∀ s', u = .inl s' → CP a b c0 m) ∧ (∀ e, u = .inr e → CP a b c0 (e.2)) := by
  unfold d_X7_tellLevels_l19 at h
  refine dc_lp_inv (fun s => CP a b c0 m) (fun u => (∀ s', u = .inl s' → CP a b c0 m) ∧ (∀ e, u = .inr e → CP a b c0 (e.2))) (fun s s' hI e1 => ?_) (fun s e' hI e1 => ?_) hD h
  · exact hI
  · unfold d_X7_tellLevels_l19s d_X7_tellLevels_l19b at e1
    by_cases c1 : (Int32.toInt (m.1 x1 1)) ≤ (Int32.toInt s.2.2)
    · rw [if_pos c1] at e1
      cases e1
      exact ⟨fun _ q => (by cases q; exact hI), fun _ q => (by cases q)⟩
    · rw [if_neg c1] at e1
      by_cases c2 : ¬ (Int32.toInt (((m.1 (x0 + 2) (Int32.toNatClampNeg x4)) >>> (s.2.2 &&& 31)) &&& (1 : Int32))) = 0
      · rw [if_pos c2] at e1
        by_cases c3 : (Int32.toInt ((m.1 (x0 + 3) (Int32.toNatClampNeg x4)) ^^^ ((1 : Int32) <<< ((m.1 (x1 + 3) (Int32.toNatClampNeg s.2.2)) &&& 31)))) = (Int32.toInt (m.1 (x0 + 3) (Int32.toNatClampNeg (m.1 (x0 + 5) (Int32.toNatClampNeg ((x4 * (16 : Int32)) + s.2.2))))))
        · rw [if_pos c3] at e1
          by_cases c4 : ¬ (Int32.toInt (m.1 (x1 + 4) (Int32.toNatClampNeg s.2.2))) = 1
          · rw [if_pos c4] at e1
            exact ⟨fun _ q => (by cases q; exact (cp_X7_tellLevels_b107 hx hI e1).2.1 _ rfl), fun _ q => (by cases q; exact (cp_X7_tellLevels_b107 hx hI e1).2.2 _ rfl)⟩
          · rw [if_neg c4] at e1
            exact ⟨fun _ q => (by cases q; exact (cp_X7_tellLevels_b107 hx hI e1).2.1 _ rfl), fun _ q => (by cases q; exact (cp_X7_tellLevels_b107 hx hI e1).2.2 _ rfl)⟩
        · rw [if_neg c3] at e1
          cases e1
          exact ⟨fun _ q => (by cases q), fun _ q => (by cases q; exact hI)⟩
      · rw [if_neg c2] at e1
        cases e1
theorem cp_X7_tellLevels_l7 {m : dc_M} {a b : Nat} {c0 : dc_M} {x0 : Nat} {x1 : Nat} {x2 : Int32} {x3 : Int32} {x4 : Int32} {e : (Int32 × dc_M)} (hx : x0 = 63) (hD : CP a b c0 m) (h : d_X7_tellLevels_l7 x0 x1 x2 x3 x4 m = some e) : CP a b c0 (e.2) := by
  unfold d_X7_tellLevels_l7 at h
  refine dc_lp_inv (fun s => CP a b c0 m) (fun e => CP a b c0 (e.2)) (fun s s' hI e1 => ?_) (fun s e' hI e1 => ?_) hD h
  · exact hI
  · unfold d_X7_tellLevels_l7s d_X7_tellLevels_l7b at e1
    by_cases c1 : (Int32.toInt (m.1 x0 0)) ≤ (Int32.toInt s.2.2)
    · rw [if_pos c1] at e1
      cases hz : d_X7_tellLevels_l163 x0 s.2.1 (0 : Int32) m with
      | none => rw [hz] at e1; cases e1
      | some z =>
        rw [hz] at e1
        cases e1
        exact cp_X7_tellLevels_l163 hx hI hz
    · rw [if_neg c1] at e1
      exact (cp_X7_tellLevels_l19 hx hI e1).2 _ rfl
theorem cp_X7_tellLevels {m : dc_M} {a b : Nat} {c0 : dc_M} {x0 : Nat} {x1 : Nat} {e : (Int32 × dc_M)} (hx : x0 = 63) (hD : CP a b c0 m) (h : d_X7_tellLevels x0 x1 m = some e) : CP a b c0 (e.2) := by
  unfold d_X7_tellLevels at h
  exact cp_X7_tellLevels_l7 hx hD h
theorem cp_X7_explore_b80 {m : dc_M} {a b : Nat} {c0 : dc_M} {x0 : Nat} {x1 : Nat} {e : dc_M} (hx : x0 = 63) (hD : CP a b c0 m) (h : d_X7_explore_b80 x0 x1 m = some e) : CP a b c0 e := by
  unfold d_X7_explore_b80 at h
  by_cases c1 : ¬ (Int32.toInt (m.1 x0 1)) = 0
  · rw [if_pos c1] at h
    cases h
    exact (cp_wi hD (fun q => by first | exact hx q _ | (unfold cpc; omega)))
  · rw [if_neg c1] at h
    cases hq1 : (d_X7_tellLevels x0 x1 m) with
    | none => rw [hq1] at h; cases h
    | some q1 =>
      rw [hq1, Option.bind_some] at h
      have dq1 := cp_X7_tellLevels hx hD hq1
      by_cases c2 : (Int32.toInt q1.1) = 0
      · rw [if_pos c2] at h
        cases h
        exact (cp_wi dq1 (fun q => by first | exact hx q _ | (unfold cpc; omega)))
      · rw [if_neg c2] at h
        cases h
        exact (cp_wi dq1 (fun q => by first | exact hx q _ | (unfold cpc; omega)))
theorem cp_X7_explore_b68 {m : dc_M} {a b : Nat} {c0 : dc_M} {x0 : Nat} {x1 : Nat} {e : dc_M} (hx : x0 = 63) (hD : CP a b c0 m) (h : d_X7_explore_b68 x0 x1 m = some e) : CP a b c0 e := by
  unfold d_X7_explore_b68 at h
  by_cases c1 : (Int32.toInt (m.1 x0 1)) = 0
  · rw [if_pos c1] at h
    exact cp_X7_explore_b80 hx hD h
  · rw [if_neg c1] at h
    exact cp_X7_explore_b80 hx (cp_wi hD (fun q => by first | exact hx q _ | (unfold cpc; omega))) h
theorem cp_X7_explore_l41 {m : dc_M} {a b : Nat} {c0 : dc_M} {x0 : Nat} {x1 : Nat} {x2 : Int32} {e : dc_M} (hx : x0 = 63) (hD : CP a b c0 m) (h : d_X7_explore_l41 x0 x1 x2 m = some e) : CP a b c0 e := by
  unfold d_X7_explore_l41 at h
  refine dc_lp_inv (fun s => CP a b c0 (s.2)) (fun e => CP a b c0 e) (fun s s' hI e1 => ?_) (fun s e' hI e1 => ?_) hD h
  · unfold d_X7_explore_l41s d_X7_explore_l41b at e1
    by_cases c1 : (Int32.toInt (s.2.1 x0 0)) ≤ (Int32.toInt s.1)
    · rw [if_pos c1] at e1
      cases hz : d_X7_explore_b68 x0 x1 s.2 with
      | none => rw [hz] at e1; cases e1
      | some z =>
        rw [hz] at e1
        cases e1
    · rw [if_neg c1] at e1
      by_cases c2 : ¬ (Int32.toInt (s.2.1 x0 1)) = 0
      · rw [if_pos c2] at e1
        cases hz : d_X7_explore_b68 x0 x1 s.2 with
        | none => rw [hz] at e1; cases e1
        | some z =>
          rw [hz] at e1
          cases e1
      · rw [if_neg c2] at e1
        cases hq1 : (d_X7_expand x0 x1 s.1 s.2) with
        | none => rw [hq1] at e1; cases e1
        | some q1 =>
          rw [hq1, Option.bind_some] at e1
          have dq1 := cp_X7_expand hx hI hq1
          cases e1
          exact dq1
  · unfold d_X7_explore_l41s d_X7_explore_l41b at e1
    by_cases c1 : (Int32.toInt (s.2.1 x0 0)) ≤ (Int32.toInt s.1)
    · rw [if_pos c1] at e1
      cases hz : d_X7_explore_b68 x0 x1 s.2 with
      | none => rw [hz] at e1; cases e1
      | some z =>
        rw [hz] at e1
        cases e1
        exact cp_X7_explore_b68 hx hI hz
    · rw [if_neg c1] at e1
      by_cases c2 : ¬ (Int32.toInt (s.2.1 x0 1)) = 0
      · rw [if_pos c2] at e1
        cases hz : d_X7_explore_b68 x0 x1 s.2 with
        | none => rw [hz] at e1; cases e1
        | some z =>
          rw [hz] at e1
          cases e1
          exact cp_X7_explore_b68 hx hI hz
      · rw [if_neg c2] at e1
        cases hq1 : (d_X7_expand x0 x1 s.1 s.2) with
        | none => rw [hq1] at e1; cases e1
        | some q1 =>
          rw [hq1, Option.bind_some] at e1
          have dq1 := cp_X7_expand hx hI hq1
          cases e1
theorem cp_X7_explore {m : dc_M} {a b : Nat} {c0 : dc_M} {x0 : Nat} {x1 : Nat} {e : dc_M} (hx : x0 = 63) (hD : CP a b c0 m) (h : d_X7_explore x0 x1 m = some e) : CP a b c0 e := by
  unfold d_X7_explore at h
  cases hq1 : (d_J7_fill_53178 (x0 + 6) (0 : Int32) (dc_wi (dc_wi (dc_wi (dc_wi m x0 0 (0 : Int32)) x0 1 (0 : Int32)) x0 2 (0 : Int32)) x0 11 (-100 : Int32))) with
  | none => rw [hq1] at h; cases h
  | some q1 =>
    rw [hq1, Option.bind_some] at h
    have dq1 := cp_J7_fill_53178 (fun q k => by unfold cpc; omega) (cp_wi (cp_wi (cp_wi (cp_wi hD (fun q => by first | exact hx q _ | (unfold cpc; omega))) (fun q => by first | exact hx q _ | (unfold cpc; omega))) (fun q => by first | exact hx q _ | (unfold cpc; omega))) (fun q => by first | exact hx q _ | (unfold cpc; omega))) hq1
    cases hq2 : (d_X7_meet x0 (q1.1 x1 13) (0 : Int32) q1) with
    | none => rw [hq2] at h; cases h
    | some q2 =>
      rw [hq2, Option.bind_some] at h
      have dq2 := cp_X7_meet hx dq1 hq2
      exact cp_X7_explore_l41 hx dq2 h
theorem cp_X9_tryCure {m : dc_M} {a b : Nat} {c0 : dc_M} {x1 : Int32} {x2 : Int32} {e : dc_M} (hD : CP a b c0 m) (h : d_X9_tryCure 1 x1 x2 m = some e) : CP a b c0 e := by
  unfold d_X9_tryCure at h
  have dq1 : CP a b c0 ((d_X3_copyFrom (m.2.2.1 1 8) (m.2.2.1 1 7) m)) := cp_X3_copyFrom hD.2.2.1 hD
  generalize (d_X3_copyFrom (m.2.2.1 1 8) (m.2.2.1 1 7) m) = q1 at h dq1
  rw [dc_let_eq] at h
  cases hq2 : (d_X3_addWireBehind (q1.2.2.1 1 8) x1 x2 q1) with
  | none => rw [hq2] at h; cases h
  | some q2 =>
    rw [hq2, Option.bind_some] at h
    have dq2 := cp_X3_addWireBehind dq1.2.2.1 dq1 hq2
    cases hq3 : (d_X7_explore (1 + 62) (q2.2.2.1 1 8) q2) with
    | none => rw [hq3] at h; cases h
    | some q3 =>
      rw [hq3, Option.bind_some] at h
      have dq3 := cp_X7_explore (by omega) dq2 hq3
      by_cases c1 : (Int32.toInt (q3.1 (1 + 62) 3)) = 0
      · rw [if_pos c1] at h
        cases h
        exact dq3
      · rw [if_neg c1] at h
        cases hq4 : (d_X0_find (1 + 70) (q3.2.2.1 1 8) (1 + 62) q3) with
        | none => rw [hq4] at h; cases h
        | some q4 =>
          rw [hq4, Option.bind_some] at h
          have dq4 := cp_X0_find (by omega) dq3 hq4
          cases h
          exact dq4
theorem cp_X9_would {m : dc_M} {a b : Nat} {c0 : dc_M} {x1 : Int32} {x2 : Int32} {e : (Int32 × dc_M)} (hD : CP a b c0 m) (h : d_X9_would 1 x1 x2 m = some e) : CP a b c0 (e.2) := by
  unfold d_X9_would at h
  cases hq1 : (d_X9_refusedCure 1 x1 x2 m) with
  | none => rw [hq1] at h; cases h
  | some q1 =>
    rw [hq1, Option.bind_some] at h
    have dq1 := cp_X9_refusedCure hD hq1
    by_cases c1 : (Int32.toInt q1.1) = 0
    · rw [if_pos c1] at h
      cases hq2 : (d_X9_tryCure 1 x1 x2 q1.2) with
      | none => rw [hq2] at h; cases h
      | some q2 =>
        rw [hq2, Option.bind_some] at h
        have dq2 := cp_X9_tryCure dq1 hq2
        by_cases c2 : ¬ (Int32.toInt (q2.1 (1 + 62) 3)) = 0
        · rw [if_pos c2] at h
          by_cases c3 : (Int32.toInt (q2.1 (1 + 70) 4)) ≤ 0
          · rw [if_pos c3] at h
            cases h
            exact dq2
          · rw [if_neg c3] at h
            cases h
            exact dq2
        · rw [if_neg c2] at h
          cases h
          exact dq2
    · rw [if_neg c1] at h
      cases h
      exact dq1
theorem cp_X9_wouldCure {m : dc_M} {a b : Nat} {c0 : dc_M} {x1 : Int32} {x2 : Int32} {e : (Int32 × dc_M)} (hD : CP a b c0 m) (h : d_X9_wouldCure 1 x1 x2 m = some e) : CP a b c0 (e.2) := by
  unfold d_X9_wouldCure at h
  cases hq1 : (d_X9_tryCure 1 x1 x2 m) with
  | none => rw [hq1] at h; cases h
  | some q1 =>
    rw [hq1, Option.bind_some] at h
    have dq1 := cp_X9_tryCure hD hq1
    by_cases c1 : (Int32.toInt (q1.1 (1 + 62) 3)) = 0
    · rw [if_pos c1] at h
      cases h
      exact dq1
    · rw [if_neg c1] at h
      by_cases c2 : ¬ (Int32.toInt (q1.1 (1 + 70) 1)) = 0
      · rw [if_pos c2] at h
        cases h
        exact dq1
      · rw [if_neg c2] at h
        by_cases c3 : ¬ (Int32.toInt (q1.1 (1 + 70) 4)) = 0
        · rw [if_pos c3] at h
          cases h
          exact dq1
        · rw [if_neg c3] at h
          cases h
          exact dq1
theorem cp_X9_searchCures_b70 {m : dc_M} {a b : Nat} {c0 : dc_M} {x1 : Int32} {x2 : Int32} {x3 : Int32} {x4 : Int32} {u : ((Int32 × Int32 × dc_M) ⊕ ((Int32 × Int32 × dc_M) ⊕ dc_M))} (hD : CP a b c0 m) (h : d_X9_searchCures_b70 1 x1 x2 x3 x4 m = some u) : (∀ s', u = .inl s' → CP a b c0 (s'.2.2)) ∧ (∀ s', u = Sum.inr (Sum.inl s') → CP a b c0 (s'.2.2)) ∧ (∀ e, u = Sum.inr (Sum.inr e) → CP a b c0 e) := by
  unfold d_X9_searchCures_b70 at h
  by_cases c1 : ¬ (Int32.toInt x1) = 0
  · rw [if_pos c1] at h
    cases h
    exact ⟨fun _ q => (by cases q; exact hD), fun _ q => (by cases q), fun _ q => (by cases q)⟩
  · rw [if_neg c1] at h
    cases h
    exact ⟨fun _ q => (by cases q), fun _ q => (by cases q), fun _ q => (by cases q; exact hD)⟩
theorem cp_X9_searchCures_l24 {m : dc_M} {a b : Nat} {c0 : dc_M} {x1 : Int32} {x2 : Int32} {x3 : Int32} {x4 : Int32} {u : ((Int32 × Int32 × dc_M) ⊕ dc_M)} (hD : CP a b c0 m) (h : d_X9_searchCures_l24 1 x1 x3 x2 x4 m = some u) : (∀ s', u = .inl s' → CP a b c0 (s'.2.2)) ∧ (∀ e, u = .inr e → CP a b c0 e) := by
  unfold d_X9_searchCures_l24 at h
  refine dc_lp_inv (fun s => CP a b c0 (s.2.2)) (fun u => (∀ s', u = .inl s' → CP a b c0 (s'.2.2)) ∧ (∀ e, u = .inr e → CP a b c0 e)) (fun s s' hI e1 => ?_) (fun s e' hI e1 => ?_) hD h
  · unfold d_X9_searchCures_l24s d_X9_searchCures_l24b at e1
    by_cases c1 : (Int32.toInt (s.2.2.1 (s.2.2.2.2.1 1 7) 1)) ≤ (Int32.toInt s.2.1)
    · rw [if_pos c1] at e1
      cases e1
    · rw [if_neg c1] at e1
      by_cases c2 : (Int32.toInt x3) = (Int32.toInt s.2.1)
      · rw [if_pos c2] at e1
        cases e1
        exact hI
      · rw [if_neg c2] at e1
        cases hq1 : (d_X9_wouldCure 1 x3 s.2.1 s.2.2) with
        | none => rw [hq1] at e1; cases e1
        | some q1 =>
          rw [hq1, Option.bind_some] at e1
          have dq1 := cp_X9_wouldCure hI hq1
          by_cases c3 : ¬ (Int32.toInt q1.1) = 0
          · rw [if_pos c3] at e1
            by_cases c4 : ¬ (Int32.toInt s.1) = 0
            · rw [if_pos c4] at e1
              exact (cp_X9_searchCures_b70  dq1 e1).1 _ rfl
            · rw [if_neg c4] at e1
              exact (cp_X9_searchCures_b70  (cp_wi dq1 (fun q => by unfold cpc; omega)) e1).1 _ rfl
          · rw [if_neg c3] at e1
            cases e1
            exact dq1
  · unfold d_X9_searchCures_l24s d_X9_searchCures_l24b at e1
    by_cases c1 : (Int32.toInt (s.2.2.1 (s.2.2.2.2.1 1 7) 1)) ≤ (Int32.toInt s.2.1)
    · rw [if_pos c1] at e1
      cases e1
      exact ⟨fun _ q => (by cases q; exact hI), fun _ q => (by cases q)⟩
    · rw [if_neg c1] at e1
      by_cases c2 : (Int32.toInt x3) = (Int32.toInt s.2.1)
      · rw [if_pos c2] at e1
        cases e1
      · rw [if_neg c2] at e1
        cases hq1 : (d_X9_wouldCure 1 x3 s.2.1 s.2.2) with
        | none => rw [hq1] at e1; cases e1
        | some q1 =>
          rw [hq1, Option.bind_some] at e1
          have dq1 := cp_X9_wouldCure hI hq1
          by_cases c3 : ¬ (Int32.toInt q1.1) = 0
          · rw [if_pos c3] at e1
            by_cases c4 : ¬ (Int32.toInt s.1) = 0
            · rw [if_pos c4] at e1
              exact ⟨fun _ q => (by cases q; exact (cp_X9_searchCures_b70  dq1 e1).2.1 _ rfl), fun _ q => (by cases q; exact (cp_X9_searchCures_b70  dq1 e1).2.2 _ rfl)⟩
            · rw [if_neg c4] at e1
              exact ⟨fun _ q => (by cases q; exact (cp_X9_searchCures_b70  (cp_wi dq1 (fun q => by unfold cpc; omega)) e1).2.1 _ rfl), fun _ q => (by cases q; exact (cp_X9_searchCures_b70  (cp_wi dq1 (fun q => by unfold cpc; omega)) e1).2.2 _ rfl)⟩
          · rw [if_neg c3] at e1
            cases e1
theorem cp_X9_searchCures_l10 {m : dc_M} {a b : Nat} {c0 : dc_M} {x1 : Int32} {x2 : Int32} {x3 : Int32} {e : dc_M} (hD : CP a b c0 m) (h : d_X9_searchCures_l10 1 x1 x2 x3 m = some e) : CP a b c0 e := by
  unfold d_X9_searchCures_l10 at h
  refine dc_lp_inv (fun s => CP a b c0 (s.2.2)) (fun e => CP a b c0 e) (fun s s' hI e1 => ?_) (fun s e' hI e1 => ?_) hD h
  · unfold d_X9_searchCures_l10s d_X9_searchCures_l10b at e1
    by_cases c1 : (Int32.toInt (s.2.2.1 (s.2.2.2.2.1 1 7) 1)) ≤ (Int32.toInt s.2.1)
    · rw [if_pos c1] at e1
      cases e1
    · rw [if_neg c1] at e1
      exact (cp_X9_searchCures_l24  hI e1).1 _ rfl
  · unfold d_X9_searchCures_l10s d_X9_searchCures_l10b at e1
    by_cases c1 : (Int32.toInt (s.2.2.1 (s.2.2.2.2.1 1 7) 1)) ≤ (Int32.toInt s.2.1)
    · rw [if_pos c1] at e1
      cases e1
      exact (cp_wi hI (fun q => by unfold cpc; omega))
    · rw [if_neg c1] at e1
      exact (cp_X9_searchCures_l24  hI e1).2 _ rfl
theorem cp_X9_searchCures {m : dc_M} {a b : Nat} {c0 : dc_M} {x1 : Int32} {e : dc_M} (hD : CP a b c0 m) (h : d_X9_searchCures 1 x1 m = some e) : CP a b c0 e := by
  unfold d_X9_searchCures at h
  exact cp_X9_searchCures_l10  (cp_wi hD (fun q => by unfold cpc; omega)) h
theorem cp_X9_cures_b88 {m : dc_M} {a b : Nat} {c0 : dc_M} {x1 : Int32} {e : (Int32 × dc_M)} (hD : CP a b c0 m) (h : d_X9_cures_b88 1 x1 m = some e) : CP a b c0 (e.2) := by
  unfold d_X9_cures_b88 at h
  by_cases c1 : ¬ (Int32.toInt x1) = 0
  · rw [if_pos c1] at h
    cases h
    exact hD
  · rw [if_neg c1] at h
    cases h
    exact hD
theorem cp_X9_cures_b85 {m : dc_M} {a b : Nat} {c0 : dc_M} {x1 : Int32} {s0 : Int32} {e : (Int32 × dc_M)} (hD : CP a b c0 m) (h : d_X9_cures_b85 1 x1 s0 1 m = some e) : CP a b c0 (e.2) := by
  unfold d_X9_cures_b85 at h
  cases hq1 : (d_X9_searchCures 1 s0 m) with
  | none => rw [hq1] at h; cases h
  | some q1 =>
    rw [hq1, Option.bind_some] at h
    have dq1 := cp_X9_searchCures hD hq1
    exact cp_X9_cures_b88  dq1 h
theorem cp_X9_cures_b69 {m : dc_M} {a b : Nat} {c0 : dc_M} {x1 : Int32} {s0 : Int32} {e : (Int32 × dc_M)} (hD : CP a b c0 m) (h : d_X9_cures_b69 1 x1 s0 m = some e) : CP a b c0 (e.2) := by
  unfold d_X9_cures_b69 at h
  by_cases c1 : ¬ (Int32.toInt s0) = 0
  · rw [if_pos c1] at h
    exact cp_X9_cures_b88  hD h
  · rw [if_neg c1] at h
    by_cases c2 : ¬ (Int32.toInt x1) = 1
    · rw [if_pos c2] at h
      exact cp_X9_cures_b85  hD h
    · rw [if_neg c2] at h
      exact cp_X9_cures_b85  hD h
theorem cp_X9_cures {m : dc_M} {a b : Nat} {c0 : dc_M} {x1 : Int32} {e : (Int32 × dc_M)} (hD : CP a b c0 m) (h : d_X9_cures 1 x1 m = some e) : CP a b c0 (e.2) := by
  unfold d_X9_cures at h
  by_cases c1 : (Int32.toInt x1) < 0
  · rw [if_pos c1] at h
    cases h
    exact hD
  · rw [if_neg c1] at h
    by_cases c2 : (Int32.toInt x1) ≤ 1
    · rw [if_pos c2] at h
      cases hq1 : (d_X9_isRight 1 m) with
      | none => rw [hq1] at h; cases h
      | some q1 =>
        rw [hq1, Option.bind_some] at h
        have dq1 := cp_X9_isRight hD hq1
        by_cases c3 : ¬ (Int32.toInt q1.1) = 0
        · rw [if_pos c3] at h
          by_cases c4 : ¬ (Int32.toInt (d_X3_hasRoomForCure (q1.2.2.2.1 1 7) q1.2)) = 0
          · rw [if_pos c4] at h
            by_cases c5 : ¬ (Int32.toInt x1) = 0
            · rw [if_pos c5] at h
              by_cases c6 : (Int32.toInt (q1.2.1 1 16)) = (-100)
              · rw [if_pos c6] at h
                exact cp_X9_cures_b69  dq1 h
              · rw [if_neg c6] at h
                exact cp_X9_cures_b69  dq1 h
            · rw [if_neg c5] at h
              by_cases c7 : (Int32.toInt (q1.2.1 1 15)) = (-100)
              · rw [if_pos c7] at h
                exact cp_X9_cures_b69  dq1 h
              · rw [if_neg c7] at h
                exact cp_X9_cures_b69  dq1 h
          · rw [if_neg c4] at h
            cases h
            exact dq1
        · rw [if_neg c3] at h
          cases h
          exact dq1
    · rw [if_neg c2] at h
      cases h
      exact hD
theorem cp_X9_findClashes {m : dc_M} {a b : Nat} {c0 : dc_M}  {e : dc_M} (hD : CP a b c0 m) (h : d_X9_findClashes 1 m = some e) : CP a b c0 e := by
  unfold d_X9_findClashes at h
  by_cases c1 : ¬ (Int32.toInt (m.1 1 12)) = 0
  · rw [if_pos c1] at h
    cases h
    exact hD
  · rw [if_neg c1] at h
    cases hq1 : (d_X0_find (1 + 11) (m.2.2.1 1 7) (1 + 3) m) with
    | none => rw [hq1] at h; cases h
    | some q1 =>
      rw [hq1, Option.bind_some] at h
      have dq1 := cp_X0_find (by omega) hD hq1
      cases h
      exact (cp_wi dq1 (fun q => by unfold cpc; omega))
theorem cp_X9_quarrels {m : dc_M} {a b : Nat} {c0 : dc_M} {x1 : Int32} {e : (Int32 × dc_M)} (hD : CP a b c0 m) (h : d_X9_quarrels 1 x1 m = some e) : CP a b c0 (e.2) := by
  unfold d_X9_quarrels at h
  by_cases c1 : (Int32.toInt x1) < 0
  · rw [if_pos c1] at h
    cases h
    exact hD
  · rw [if_neg c1] at h
    by_cases c2 : (Int32.toInt x1) ≤ 3
    · rw [if_pos c2] at h
      cases hq1 : (d_X9_isRight 1 m) with
      | none => rw [hq1] at h; cases h
      | some q1 =>
        rw [hq1, Option.bind_some] at h
        have dq1 := cp_X9_isRight hD hq1
        by_cases c3 : ¬ (Int32.toInt q1.1) = 0
        · rw [if_pos c3] at h
          cases hq2 : (d_X9_findClashes 1 q1.2) with
          | none => rw [hq2] at h; cases h
          | some q2 =>
            rw [hq2, Option.bind_some] at h
            have dq2 := cp_X9_findClashes dq1 hq2
            by_cases c4 : (Int32.toInt x1) = 0
            · rw [if_pos c4] at h
              cases h
              exact dq2
            rw [if_neg c4] at h
            by_cases c5 : (Int32.toInt x1) = 1
            · rw [if_pos c5] at h
              cases h
              exact dq2
            rw [if_neg c5] at h
            by_cases c6 : (Int32.toInt x1) = 2
            · rw [if_pos c6] at h
              cases h
              exact dq2
            rw [if_neg c6] at h
            cases h
            exact dq2
        · rw [if_neg c3] at h
          cases h
          exact dq1
    · rw [if_neg c2] at h
      cases h
      exact hD
theorem cp_X9_back {m : dc_M} {a b : Nat} {c0 : dc_M} {x1 : Int32} {e : (Int32 × dc_M)} (hD : CP a b c0 m) (h : d_X9_back 1 x1 m = some e) : CP a b c0 (e.2) := by
  unfold d_X9_back at h
  by_cases c1 : (Int32.toInt x1) < 0
  · rw [if_pos c1] at h
    cases h
    exact hD
  · rw [if_neg c1] at h
    by_cases c2 : (Int32.toInt x1) ≤ 3
    · rw [if_pos c2] at h
      cases hq1 : (d_X9_isRight 1 m) with
      | none => rw [hq1] at h; cases h
      | some q1 =>
        rw [hq1, Option.bind_some] at h
        have dq1 := cp_X9_isRight hD hq1
        by_cases c3 : ¬ (Int32.toInt q1.1) = 0
        · rw [if_pos c3] at h
          cases hq2 : (d_X9_findClashes 1 q1.2) with
          | none => rw [hq2] at h; cases h
          | some q2 =>
            rw [hq2, Option.bind_some] at h
            have dq2 := cp_X9_findClashes dq1 hq2
            by_cases c4 : (Int32.toInt x1) = 0
            · rw [if_pos c4] at h
              cases h
              exact dq2
            rw [if_neg c4] at h
            by_cases c5 : (Int32.toInt x1) = 1
            · rw [if_pos c5] at h
              cases h
              exact dq2
            rw [if_neg c5] at h
            by_cases c6 : (Int32.toInt x1) = 2
            · rw [if_pos c6] at h
              cases h
              exact dq2
            rw [if_neg c6] at h
            cases h
            exact dq2
        · rw [if_neg c3] at h
          cases h
          exact dq1
    · rw [if_neg c2] at h
      cases h
      exact hD
