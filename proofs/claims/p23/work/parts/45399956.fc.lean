/-! ===== what the search for the beat leaves alone (written by a program) ===== -/
def fcc (x k : Nat) : Prop := x = 34 ∨ x = 35 ∨ x = 36 ∨ (x = 30 ∧ (k = 1 ∨ k = 2 ∨ k = 3))
def FCm (c0 m : dc_M) : Prop := (∀ x k, ¬ fcc x k → m.1 x k = c0.1 x k) ∧ m.2.1 = c0.2.1 ∧ m.2.2.2 = c0.2.2.2 ∧ RFw m ∧ ∀ y f, ¬ (y = 30 ∧ (f = 8 ∨ f = 9)) → m.2.2.1 y f = c0.2.2.1 y f
theorem fc_wi {c0 m : dc_M} {x k : Nat} {v : Int32} (h : FCm c0 m) (hs : fcc x k) : FCm c0 (dc_wi m x k v) := ⟨fun y j n => (wi_k (fun q => n (by rw [q.1, q.2]; exact hs))).trans (h.1 y j n), h.2⟩
theorem fc_ref {c0 m : dc_M} {x k : Nat} (hx : x = 30) (h : FCm c0 m) : fcc (m.2.2.1 x 8) k := by
  rw [hx]
  rcases h.2.2.2.1 with ⟨q, -⟩ | ⟨q, -⟩
  · rw [q]; exact Or.inl rfl
  · rw [q]; exact Or.inr (Or.inl rfl)
theorem fc_X5_turnWays {m : dc_M} {c0 : dc_M} {x0 : Nat} (hx : x0 = 30) (hD : FCm c0 m) : FCm c0 (d_X5_turnWays x0 m) := by
  rw [hx]
  unfold d_X5_turnWays
  refine ⟨hD.1, hD.2.1, hD.2.2.1, ?_, fun y f n => ?_⟩
  · rcases hD.2.2.2.1 with ⟨q1, q2⟩ | ⟨q1, q2⟩
    · exact Or.inr ⟨q2, q1⟩
    · exact Or.inl ⟨q2, q1⟩
  · show (if y = 30 ∧ f = 8 then _ else if y = 30 ∧ f = 9 then _ else m.2.2.1 y f) = _
    rw [if_neg (by omega), if_neg (by omega)]
    exact hD.2.2.2.2 y f n
theorem fc_J7_fill_53178_l5 {m : dc_M} {c0 : dc_M} {x0 : Nat} {x1 : Int32} {x2 : Int32} {x3 : Int32} {e : dc_M} (hx : ∀ k, fcc x0 k) (hD : FCm c0 m) (h : d_J7_fill_53178_l5 x0 x1 x3 x2 m = some e) : FCm c0 e := by
  unfold d_J7_fill_53178_l5 at h
  refine dc_lp_inv (fun s => FCm c0 (s.2)) (fun e => FCm c0 e) (fun s s' hI e1 => ?_) (fun s e' hI e1 => ?_) hD h
  · unfold d_J7_fill_53178_l5s d_J7_fill_53178_l5b at e1
    by_cases c1 : (Int32.toInt x3) ≤ (Int32.toInt s.1)
    · rw [if_pos c1] at e1
      cases e1
    · rw [if_neg c1] at e1
      cases e1
      exact (fc_wi hI (by first | exact hx _ | exact fc_ref hx (by assumption) | (unfold fcc; omega)))
  · unfold d_J7_fill_53178_l5s d_J7_fill_53178_l5b at e1
    by_cases c1 : (Int32.toInt x3) ≤ (Int32.toInt s.1)
    · rw [if_pos c1] at e1
      cases e1
      exact hI
    · rw [if_neg c1] at e1
      cases e1
theorem fc_J7_fill_53178 {m : dc_M} {c0 : dc_M} {x0 : Nat} {x1 : Int32} {e : dc_M} (hx : ∀ k, fcc x0 k) (hD : FCm c0 m) (h : d_J7_fill_53178 x0 x1 m = some e) : FCm c0 e := by
  unfold d_J7_fill_53178 at h
  exact fc_J7_fill_53178_l5 hx hD h
theorem fc_X5_lengthen {m : dc_M} {c0 : dc_M} {x0 : Nat} {x1 : Nat} {x2 : Nat} {x3 : Int32} (hx : x0 = 30) (hD : FCm c0 m) : FCm c0 ((d_X5_lengthen x0 x1 x2 x3 m)) := by
  unfold d_X5_lengthen
  by_cases c1 : (Int32.toInt (m.1 x1 (Int32.toNatClampNeg (m.1 (x0 + 1) (Int32.toNatClampNeg x3))))) = (-1)
  · rw [if_pos c1]
    exact hD
  · rw [if_neg c1]
    exact (fc_wi hD (by first | exact hx _ | exact fc_ref hx (by assumption) | (unfold fcc; omega)))
theorem fc_X5_goOnWithoutToken_l32 {m : dc_M} {c0 : dc_M} {x0 : Nat} {x1 : Nat} {x2 : Int32} {x3 : Int32} {x4 : Int32} {u : ((Int32 × dc_M) ⊕ dc_M)} (hx : x0 = 30) (hD : FCm c0 m) (h : d_X5_goOnWithoutToken_l32 x0 x1 x2 x3 x4 m = some u) : (∀ s', u = .inl s' → FCm c0 (s'.2)) ∧ (∀ e, u = .inr e → FCm c0 e) := by
  unfold d_X5_goOnWithoutToken_l32 at h
  refine dc_lp_inv (fun s => FCm c0 (s.2)) (fun u => (∀ s', u = .inl s' → FCm c0 (s'.2)) ∧ (∀ e, u = .inr e → FCm c0 e)) (fun s s' hI e1 => ?_) (fun s e' hI e1 => ?_) hD h
  · unfold d_X5_goOnWithoutToken_l32s d_X5_goOnWithoutToken_l32b at e1
    by_cases c1 : (Int32.toInt (s.2.1 x1 2)) ≤ (Int32.toInt s.1)
    · rw [if_pos c1] at e1
      cases e1
    · rw [if_neg c1] at e1
      by_cases c2 : (Int32.toInt (x3 >>> (s.1 &&& 31))) = 0
      · rw [if_pos c2] at e1
        cases e1
      · rw [if_neg c2] at e1
        by_cases c3 : (Int32.toInt ((x3 >>> (s.1 &&& 31)) &&& (1 : Int32))) = 0
        · rw [if_pos c3] at e1
          cases e1
          exact hI
        · rw [if_neg c3] at e1
          have dq1 : FCm c0 ((d_X5_lengthen x0 (s.2.2.2.1 x0 8) x1 s.1 s.2)) := fc_X5_lengthen hx hI
          generalize (d_X5_lengthen x0 (s.2.2.2.1 x0 8) x1 s.1 s.2) = q1 at e1 dq1
          rw [dc_let_eq] at e1
          cases e1
          exact dq1
  · unfold d_X5_goOnWithoutToken_l32s d_X5_goOnWithoutToken_l32b at e1
    by_cases c1 : (Int32.toInt (s.2.1 x1 2)) ≤ (Int32.toInt s.1)
    · rw [if_pos c1] at e1
      cases e1
      exact ⟨fun _ q => (by cases q; exact hI), fun _ q => (by cases q)⟩
    · rw [if_neg c1] at e1
      by_cases c2 : (Int32.toInt (x3 >>> (s.1 &&& 31))) = 0
      · rw [if_pos c2] at e1
        cases e1
        exact ⟨fun _ q => (by cases q; exact hI), fun _ q => (by cases q)⟩
      · rw [if_neg c2] at e1
        by_cases c3 : (Int32.toInt ((x3 >>> (s.1 &&& 31)) &&& (1 : Int32))) = 0
        · rw [if_pos c3] at e1
          cases e1
        · rw [if_neg c3] at e1
          have dq1 : FCm c0 ((d_X5_lengthen x0 (s.2.2.2.1 x0 8) x1 s.1 s.2)) := fc_X5_lengthen hx hI
          generalize (d_X5_lengthen x0 (s.2.2.2.1 x0 8) x1 s.1 s.2) = q1 at e1 dq1
          rw [dc_let_eq] at e1
          cases e1
theorem fc_X5_goOnWithoutToken_l2 {m : dc_M} {c0 : dc_M} {x0 : Nat} {x1 : Nat} {x2 : Int32} {e : dc_M} (hx : x0 = 30) (hD : FCm c0 m) (h : d_X5_goOnWithoutToken_l2 x0 x1 x2 m = some e) : FCm c0 e := by
  unfold d_X5_goOnWithoutToken_l2 at h
  refine dc_lp_inv (fun s => FCm c0 (s.2)) (fun e => FCm c0 e) (fun s s' hI e1 => ?_) (fun s e' hI e1 => ?_) hD h
  · unfold d_X5_goOnWithoutToken_l2s d_X5_goOnWithoutToken_l2b at e1
    by_cases c1 : (Int32.toInt (s.2.1 x0 7)) ≤ (Int32.toInt s.1)
    · rw [if_pos c1] at e1
      cases e1
    · rw [if_neg c1] at e1
      exact (fc_X5_goOnWithoutToken_l32 hx hI e1).1 _ rfl
  · unfold d_X5_goOnWithoutToken_l2s d_X5_goOnWithoutToken_l2b at e1
    by_cases c1 : (Int32.toInt (s.2.1 x0 7)) ≤ (Int32.toInt s.1)
    · rw [if_pos c1] at e1
      cases e1
      exact hI
    · rw [if_neg c1] at e1
      exact (fc_X5_goOnWithoutToken_l32 hx hI e1).2 _ rfl
theorem fc_X5_goOnWithoutToken {m : dc_M} {c0 : dc_M} {x0 : Nat} {x1 : Nat} {e : dc_M} (hx : x0 = 30) (hD : FCm c0 m) (h : d_X5_goOnWithoutToken x0 x1 m = some e) : FCm c0 e := by
  unfold d_X5_goOnWithoutToken at h
  exact fc_X5_goOnWithoutToken_l2 hx hD h
theorem fc_X5_findClosedWays_b83 {m : dc_M} {c0 : dc_M} {x0 : Nat} {x1 : Nat} {x2 : Int32} {x3 : Int32} {u : ((Int32 × dc_M) ⊕ dc_M)} (hx : x0 = 30) (hD : FCm c0 m) (h : d_X5_findClosedWays_b83 x0 x1 x2 x3 m = some u) : (∀ s', u = .inl s' → FCm c0 (s'.2)) ∧ (∀ e, u = .inr e → FCm c0 e) := by
  unfold d_X5_findClosedWays_b83 at h
  cases hq1 : (d_X5_goOnWithoutToken x0 x1 m) with
  | none => rw [hq1] at h; cases h
  | some q1 =>
    rw [hq1, Option.bind_some] at h
    have dq1 := fc_X5_goOnWithoutToken hx hD hq1
    cases h
    exact ⟨fun _ q => (by cases q; exact (fc_wi dq1 (by first | exact hx _ | exact fc_ref hx (by assumption) | (unfold fcc; omega)))), fun _ q => (by cases q)⟩
theorem fc_X5_findClosedWays_l45 {m : dc_M} {c0 : dc_M} {x0 : Nat} {x1 : Nat} {x2 : Int32} {x3 : Int32} {x4 : Int32} {u : ((Int32 × dc_M) ⊕ dc_M)} (hx : x0 = 30) (hD : FCm c0 m) (h : d_X5_findClosedWays_l45 x0 x1 x2 x3 x4 m = some u) : (∀ s', u = .inl s' → FCm c0 (s'.2)) ∧ (∀ e, u = .inr e → FCm c0 e) := by
  unfold d_X5_findClosedWays_l45 at h
  refine dc_lp_inv (fun s => FCm c0 (s.2)) (fun u => (∀ s', u = .inl s' → FCm c0 (s'.2)) ∧ (∀ e, u = .inr e → FCm c0 e)) (fun s s' hI e1 => ?_) (fun s e' hI e1 => ?_) hD h
  · unfold d_X5_findClosedWays_l45s d_X5_findClosedWays_l45b at e1
    by_cases c1 : (Int32.toInt (s.2.1 x1 2)) ≤ (Int32.toInt s.1)
    · rw [if_pos c1] at e1
      cases hz : d_X5_findClosedWays_b83 x0 x1 x2 x3 s.2 with
      | none => rw [hz] at e1; cases e1
      | some z =>
        rw [hz] at e1
        cases e1
    · rw [if_neg c1] at e1
      by_cases c2 : (Int32.toInt (((s.2.1 x1 13) >>> (s.1 &&& 31)) &&& (1 : Int32))) = 0
      · rw [if_pos c2] at e1
        cases e1
        exact hI
      · rw [if_neg c2] at e1
        have dq1 : FCm c0 ((d_X5_lengthen x0 (s.2.2.2.1 x0 9) x1 s.1 s.2)) := fc_X5_lengthen hx hI
        generalize (d_X5_lengthen x0 (s.2.2.2.1 x0 9) x1 s.1 s.2) = q1 at e1 dq1
        rw [dc_let_eq] at e1
        cases e1
        exact dq1
  · unfold d_X5_findClosedWays_l45s d_X5_findClosedWays_l45b at e1
    by_cases c1 : (Int32.toInt (s.2.1 x1 2)) ≤ (Int32.toInt s.1)
    · rw [if_pos c1] at e1
      cases hz : d_X5_findClosedWays_b83 x0 x1 x2 x3 s.2 with
      | none => rw [hz] at e1; cases e1
      | some z =>
        rw [hz] at e1
        cases e1
        exact fc_X5_findClosedWays_b83 hx hI hz
    · rw [if_neg c1] at e1
      by_cases c2 : (Int32.toInt (((s.2.1 x1 13) >>> (s.1 &&& 31)) &&& (1 : Int32))) = 0
      · rw [if_pos c2] at e1
        cases e1
      · rw [if_neg c2] at e1
        have dq1 : FCm c0 ((d_X5_lengthen x0 (s.2.2.2.1 x0 9) x1 s.1 s.2)) := fc_X5_lengthen hx hI
        generalize (d_X5_lengthen x0 (s.2.2.2.1 x0 9) x1 s.1 s.2) = q1 at e1 dq1
        rw [dc_let_eq] at e1
        cases e1
theorem fc_X5_findClosedWays_l22 {m : dc_M} {c0 : dc_M} {x0 : Nat} {x1 : Nat} {x2 : Int32} {x3 : Int32} {e : dc_M} (hx : x0 = 30) (hD : FCm c0 m) (h : d_X5_findClosedWays_l22 x0 x1 x2 x3 m = some e) : FCm c0 e := by
  unfold d_X5_findClosedWays_l22 at h
  refine dc_lp_inv (fun s => FCm c0 (s.2)) (fun e => FCm c0 e) (fun s s' hI e1 => ?_) (fun s e' hI e1 => ?_) hD h
  · unfold d_X5_findClosedWays_l22s d_X5_findClosedWays_l22b at e1
    by_cases c1 : (Int32.toInt (s.2.1 x1 1)) < (Int32.toInt s.1)
    · rw [if_pos c1] at e1
      cases e1
    · rw [if_neg c1] at e1
      have dq1 : FCm c0 ((d_X5_turnWays x0 s.2)) := fc_X5_turnWays hx hI
      generalize (d_X5_turnWays x0 s.2) = q1 at e1 dq1
      rw [dc_let_eq] at e1
      cases hq2 : (d_J7_fill_53178 (q1.2.2.1 x0 8) (-1 : Int32) q1) with
      | none => rw [hq2] at e1; cases e1
      | some q2 =>
        rw [hq2, Option.bind_some] at e1
        have dq2 := fc_J7_fill_53178 (fun k => fc_ref hx (by assumption)) dq1 hq2
        exact (fc_X5_findClosedWays_l45 hx dq2 e1).1 _ rfl
  · unfold d_X5_findClosedWays_l22s d_X5_findClosedWays_l22b at e1
    by_cases c1 : (Int32.toInt (s.2.1 x1 1)) < (Int32.toInt s.1)
    · rw [if_pos c1] at e1
      cases e1
      exact hI
    · rw [if_neg c1] at e1
      have dq1 : FCm c0 ((d_X5_turnWays x0 s.2)) := fc_X5_turnWays hx hI
      generalize (d_X5_turnWays x0 s.2) = q1 at e1 dq1
      rw [dc_let_eq] at e1
      cases hq2 : (d_J7_fill_53178 (q1.2.2.1 x0 8) (-1 : Int32) q1) with
      | none => rw [hq2] at e1; cases e1
      | some q2 =>
        rw [hq2, Option.bind_some] at e1
        have dq2 := fc_J7_fill_53178 (fun k => fc_ref hx (by assumption)) dq1 hq2
        exact (fc_X5_findClosedWays_l45 hx dq2 e1).2 _ rfl
theorem fc_X5_findClosedWays {m : dc_M} {c0 : dc_M} {x0 : Nat} {x1 : Nat} {x2 : Int32} {e : dc_M} (hx : x0 = 30) (hD : FCm c0 m) (h : d_X5_findClosedWays x0 x1 x2 m = some e) : FCm c0 e := by
  unfold d_X5_findClosedWays at h
  cases hq1 : (d_J7_fill_53178 (m.2.2.1 x0 8) (-1 : Int32) m) with
  | none => rw [hq1] at h; cases h
  | some q1 =>
    rw [hq1, Option.bind_some] at h
    have dq1 := fc_J7_fill_53178 (fun k => fc_ref hx (by assumption)) hD hq1
    cases hq2 : (d_X5_goOnWithoutToken x0 x1 (dc_wi q1 (q1.2.2.1 x0 8) (Int32.toNatClampNeg x2) (0 : Int32))) with
    | none => rw [hq2] at h; cases h
    | some q2 =>
      rw [hq2, Option.bind_some] at h
      have dq2 := fc_X5_goOnWithoutToken hx (fc_wi dq1 (by first | exact hx _ | exact fc_ref hx (by assumption) | (unfold fcc; omega))) hq2
      exact fc_X5_findClosedWays_l22 hx dq2 h
theorem fc_X5_reduce_b38 {m : dc_M} {c0 : dc_M} {x0 : Nat} {x1 : Int32} {e : dc_M} (hx : x0 = 30) (hD : FCm c0 m) (h : d_X5_reduce_b38 x0 x1 m = some e) : FCm c0 e := by
  unfold d_X5_reduce_b38 at h
  by_cases c1 : (Int32.toInt x1) ≤ 1
  · rw [if_pos c1] at h
    cases h
    exact hD
  · rw [if_neg c1] at h
    cases h
    exact (fc_wi (fc_wi hD (by first | exact hx _ | exact fc_ref hx (by assumption) | (unfold fcc; omega))) (by first | exact hx _ | exact fc_ref hx (by assumption) | (unfold fcc; omega)))
theorem fc_X5_reduce_l12 {m : dc_M} {c0 : dc_M} {x0 : Nat} {x1 : Int32} {x2 : Int32} {x3 : Int32} {e : dc_M} (hx : x0 = 30) (hD : FCm c0 m) (h : d_X5_reduce_l12 x0 x1 x2 x3 m = some e) : FCm c0 e := by
  unfold d_X5_reduce_l12 at h
  refine dc_lp_inv (fun s => FCm c0 m) (fun e => FCm c0 e) (fun s s' hI e1 => ?_) (fun s e' hI e1 => ?_) hD h
  · exact hI
  · unfold d_X5_reduce_l12s d_X5_reduce_l12b at e1
    by_cases c1 : 100 ≤ (Int32.toInt s.2.2)
    · rw [if_pos c1] at e1
      cases hz : d_X5_reduce_b38 x0 s.1 m with
      | none => rw [hz] at e1; cases e1
      | some z =>
        rw [hz] at e1
        cases e1
        exact fc_X5_reduce_b38 hx hI hz
    · rw [if_neg c1] at e1
      by_cases c2 : (Int32.toInt s.2.1) = 0
      · rw [if_pos c2] at e1
        cases hz : d_X5_reduce_b38 x0 s.1 m with
        | none => rw [hz] at e1; cases e1
        | some z =>
          rw [hz] at e1
          cases e1
          exact fc_X5_reduce_b38 hx hI hz
      · rw [if_neg c2] at e1
        cases e1
theorem fc_X5_reduce {m : dc_M} {c0 : dc_M} {x0 : Nat} {e : dc_M} (hx : x0 = 30) (hD : FCm c0 m) (h : d_X5_reduce x0 m = some e) : FCm c0 e := by
  unfold d_X5_reduce at h
  exact fc_X5_reduce_l12 hx hD h
theorem fc_X5_findBeat_b109 {m : dc_M} {c0 : dc_M} {x0 : Nat} {e : dc_M} (hx : x0 = 30) (hD : FCm c0 m) (h : d_X5_findBeat_b109 x0 m = some e) : FCm c0 e := by
  unfold d_X5_findBeat_b109 at h
  cases hq1 : (d_X5_reduce x0 m) with
  | none => rw [hq1] at h; cases h
  | some q1 =>
    rw [hq1, Option.bind_some] at h
    have dq1 := fc_X5_reduce hx hD hq1
    cases h
    exact dq1
theorem fc_X5_findBeat_b80 {m : dc_M} {c0 : dc_M} {x0 : Nat} {x1 : Int32} {x2 : Int32} {x3 : Int32} {x5 : Int32} {u : ((Int32 × dc_M) ⊕ ((Int32 × dc_M) ⊕ dc_M))} (hx : x0 = 30) (hD : FCm c0 m) (h : d_X5_findBeat_b80 x0 x1 x2 x3 x5 m = some u) : (∀ s', u = .inl s' → FCm c0 (s'.2)) ∧ (∀ s', u = Sum.inr (Sum.inl s') → FCm c0 (s'.2)) ∧ (∀ e, u = Sum.inr (Sum.inr e) → FCm c0 e) := by
  unfold d_X5_findBeat_b80 at h
  by_cases c1 : (Int32.toInt x5) < 0
  · rw [if_pos c1] at h
    cases h
    exact ⟨fun _ q => (by cases q; exact hD), fun _ q => (by cases q), fun _ q => (by cases q)⟩
  · rw [if_neg c1] at h
    cases h
    exact ⟨fun _ q => (by cases q; exact (fc_wi hD (by first | exact hx _ | exact fc_ref hx (by assumption) | (unfold fcc; omega)))), fun _ q => (by cases q), fun _ q => (by cases q)⟩
theorem fc_X5_findBeat_l9 {m : dc_M} {c0 : dc_M} {x0 : Nat} {x1 : Int32} {x2 : Int32} {x3 : Int32} {u : ((Int32 × dc_M) ⊕ dc_M)} (hx : x0 = 30) (hD : FCm c0 m) (h : d_X5_findBeat_l9 x0 x1 x2 x3 m = some u) : (∀ s', u = .inl s' → FCm c0 (s'.2)) ∧ (∀ e, u = .inr e → FCm c0 e) := by
  unfold d_X5_findBeat_l9 at h
  refine dc_lp_inv (fun s => FCm c0 (s.2)) (fun u => (∀ s', u = .inl s' → FCm c0 (s'.2)) ∧ (∀ e, u = .inr e → FCm c0 e)) (fun s s' hI e1 => ?_) (fun s e' hI e1 => ?_) hD h
  · unfold d_X5_findBeat_l9s d_X5_findBeat_l9b at e1
    by_cases c1 : (Int32.toInt x1) < (Int32.toInt s.1)
    · rw [if_pos c1] at e1
      cases e1
    · rw [if_neg c1] at e1
      by_cases c2 : ¬ (Int32.toInt (s.2.1 (x0 + 6) (Int32.toNatClampNeg ((x2 * (17 : Int32)) + s.1)))) = (-1)
      · rw [if_pos c2] at e1
        by_cases c3 : (Int32.toInt (s.2.1 x0 2)) = 0
        · rw [if_pos c3] at e1
          exact (fc_X5_findBeat_b80 hx (fc_wi (fc_wi (fc_wi hI (by first | exact hx _ | exact fc_ref hx (by assumption) | (unfold fcc; omega))) (by first | exact hx _ | exact fc_ref hx (by assumption) | (unfold fcc; omega))) (by first | exact hx _ | exact fc_ref hx (by assumption) | (unfold fcc; omega))) e1).1 _ rfl
        · rw [if_neg c3] at e1
          by_cases c4 : (Int32.toInt (((s.2.1 (x0 + 6) (Int32.toNatClampNeg ((x2 * (17 : Int32)) + s.1))) * (s.2.1 x0 2)) - ((s.2.1 x0 1) * s.1))) ≤ 0
          · rw [if_pos c4] at e1
            exact (fc_X5_findBeat_b80 hx hI e1).1 _ rfl
          · rw [if_neg c4] at e1
            exact (fc_X5_findBeat_b80 hx (fc_wi (fc_wi (fc_wi hI (by first | exact hx _ | exact fc_ref hx (by assumption) | (unfold fcc; omega))) (by first | exact hx _ | exact fc_ref hx (by assumption) | (unfold fcc; omega))) (by first | exact hx _ | exact fc_ref hx (by assumption) | (unfold fcc; omega))) e1).1 _ rfl
      · rw [if_neg c2] at e1
        cases e1
        exact hI
  · unfold d_X5_findBeat_l9s d_X5_findBeat_l9b at e1
    by_cases c1 : (Int32.toInt x1) < (Int32.toInt s.1)
    · rw [if_pos c1] at e1
      cases e1
      exact ⟨fun _ q => (by cases q; exact hI), fun _ q => (by cases q)⟩
    · rw [if_neg c1] at e1
      by_cases c2 : ¬ (Int32.toInt (s.2.1 (x0 + 6) (Int32.toNatClampNeg ((x2 * (17 : Int32)) + s.1)))) = (-1)
      · rw [if_pos c2] at e1
        by_cases c3 : (Int32.toInt (s.2.1 x0 2)) = 0
        · rw [if_pos c3] at e1
          exact ⟨fun _ q => (by cases q; exact (fc_X5_findBeat_b80 hx (fc_wi (fc_wi (fc_wi hI (by first | exact hx _ | exact fc_ref hx (by assumption) | (unfold fcc; omega))) (by first | exact hx _ | exact fc_ref hx (by assumption) | (unfold fcc; omega))) (by first | exact hx _ | exact fc_ref hx (by assumption) | (unfold fcc; omega))) e1).2.1 _ rfl), fun _ q => (by cases q; exact (fc_X5_findBeat_b80 hx (fc_wi (fc_wi (fc_wi hI (by first | exact hx _ | exact fc_ref hx (by assumption) | (unfold fcc; omega))) (by first | exact hx _ | exact fc_ref hx (by assumption) | (unfold fcc; omega))) (by first | exact hx _ | exact fc_ref hx (by assumption) | (unfold fcc; omega))) e1).2.2 _ rfl)⟩
        · rw [if_neg c3] at e1
          by_cases c4 : (Int32.toInt (((s.2.1 (x0 + 6) (Int32.toNatClampNeg ((x2 * (17 : Int32)) + s.1))) * (s.2.1 x0 2)) - ((s.2.1 x0 1) * s.1))) ≤ 0
          · rw [if_pos c4] at e1
            exact ⟨fun _ q => (by cases q; exact (fc_X5_findBeat_b80 hx hI e1).2.1 _ rfl), fun _ q => (by cases q; exact (fc_X5_findBeat_b80 hx hI e1).2.2 _ rfl)⟩
          · rw [if_neg c4] at e1
            exact ⟨fun _ q => (by cases q; exact (fc_X5_findBeat_b80 hx (fc_wi (fc_wi (fc_wi hI (by first | exact hx _ | exact fc_ref hx (by assumption) | (unfold fcc; omega))) (by first | exact hx _ | exact fc_ref hx (by assumption) | (unfold fcc; omega))) (by first | exact hx _ | exact fc_ref hx (by assumption) | (unfold fcc; omega))) e1).2.1 _ rfl), fun _ q => (by cases q; exact (fc_X5_findBeat_b80 hx (fc_wi (fc_wi (fc_wi hI (by first | exact hx _ | exact fc_ref hx (by assumption) | (unfold fcc; omega))) (by first | exact hx _ | exact fc_ref hx (by assumption) | (unfold fcc; omega))) (by first | exact hx _ | exact fc_ref hx (by assumption) | (unfold fcc; omega))) e1).2.2 _ rfl)⟩
      · rw [if_neg c2] at e1
        cases e1
theorem fc_X5_findBeat_l2 {m : dc_M} {c0 : dc_M} {x0 : Nat} {x1 : Int32} {x2 : Int32} {e : dc_M} (hx : x0 = 30) (hD : FCm c0 m) (h : d_X5_findBeat_l2 x0 x1 x2 m = some e) : FCm c0 e := by
  unfold d_X5_findBeat_l2 at h
  refine dc_lp_inv (fun s => FCm c0 (s.2)) (fun e => FCm c0 e) (fun s s' hI e1 => ?_) (fun s e' hI e1 => ?_) hD h
  · unfold d_X5_findBeat_l2s d_X5_findBeat_l2b at e1
    by_cases c1 : (Int32.toInt x1) ≤ (Int32.toInt s.1)
    · rw [if_pos c1] at e1
      cases hz : d_X5_findBeat_b109 x0 s.2 with
      | none => rw [hz] at e1; cases e1
      | some z =>
        rw [hz] at e1
        cases e1
    · rw [if_neg c1] at e1
      exact (fc_X5_findBeat_l9 hx hI e1).1 _ rfl
  · unfold d_X5_findBeat_l2s d_X5_findBeat_l2b at e1
    by_cases c1 : (Int32.toInt x1) ≤ (Int32.toInt s.1)
    · rw [if_pos c1] at e1
      cases hz : d_X5_findBeat_b109 x0 s.2 with
      | none => rw [hz] at e1; cases e1
      | some z =>
        rw [hz] at e1
        cases e1
        exact fc_X5_findBeat_b109 hx hI hz
    · rw [if_neg c1] at e1
      exact (fc_X5_findBeat_l9 hx hI e1).2 _ rfl
theorem fc_X5_findBeat {m : dc_M} {c0 : dc_M} {x0 : Nat} {x1 : Int32} {e : dc_M} (hx : x0 = 30) (hD : FCm c0 m) (h : d_X5_findBeat x0 x1 m = some e) : FCm c0 e := by
  unfold d_X5_findBeat at h
  exact fc_X5_findBeat_l2 hx hD h
