/-! ===== behind a fault ===== -/
theorem dc_let_eq {α β : Type} {x : α} {f : α → β} : dc_let x f = f x := rfl
/-- the class has found the fault f at g; its net is one of the two -/
def dd (f g : Int32) (m : dc_M) : Prop := m.1 2 2 = f ∧ m.1 2 3 = g ∧ ¬ f.toInt = 0 ∧ (m.2.2.1 2 8 = 41 ∨ m.2.2.1 2 8 = 52)
theorem dd_wi {f g v : Int32} {m : dc_M} {a k : Nat} (h : dd f g m) (hs : ¬ (a = 2 ∧ (k = 2 ∨ k = 3))) : dd f g (dc_wi m a k v) := ⟨(wi_k (by omega)).trans h.1, (wi_k (by omega)).trans h.2.1, h.2.2⟩
theorem dd_take {f g : Int32} {m e : dc_M} (h : dd f g m) (q : d_X4_take 2 m = some e) : dd f g e := by
  unfold d_X4_take at q
  rw [if_neg (by rw [h.1]; exact h.2.2.1)] at q
  cases q
  exact h
theorem dd_refuse {f g w a : Int32} {m : dc_M} (h : dd f g m) : dd f g (d_X4_refuse 2 w a m) := by
  rw [rf_1 (by rw [h.1]; exact h.2.2.1)]
  exact dd_wi h (by omega)
theorem dd_X3_addWire {m : dc_M} {f g : Int32} {x0 : Nat} {x1 : Int32} {x2 : Int32} (hx : x0 = 41 ∨ x0 = 52) (hD : dd f g m) : dd f g ((d_X3_addWire x0 x1 x2 m).2) := by
  unfold d_X3_addWire
  by_cases c1 : (Int32.toInt (m.1 x0 0)) < 6
  · rw [if_pos c1]
    exact (dd_wi (dd_wi (dd_wi hD (by omega)) (by omega)) (by omega))
  · rw [if_neg c1]
    exact hD
theorem dd_X3_addEvent {m : dc_M} {f g : Int32} {x0 : Nat} {x1 : Int32} {x2 : Int32} {x3 : Int32} (hx : x0 = 41 ∨ x0 = 52) (hD : dd f g m) : dd f g ((d_X3_addEvent x0 x1 x2 x3 m).2) := by
  unfold d_X3_addEvent
  by_cases c1 : (Int32.toInt (m.1 x0 1)) < 16
  · rw [if_pos c1]
    exact (dd_wi (dd_wi (dd_wi (dd_wi (dd_wi (dd_wi (dd_wi hD (by omega)) (by omega)) (by omega)) (by omega)) (by omega)) (by omega)) (by omega))
  · rw [if_neg c1]
    exact hD
theorem dd_X3_addPlace_b88 {m : dc_M} {f g : Int32} {x0 : Nat} {x1 : Int32} {x2 : Int32} {x4 : Int32} {x5 : Int32} {s0 : Int32} {s1 : Int32} {s2 : Int32} {x : ((Int32 × dc_M) ⊕ dc_M)} (hx : x0 = 41 ∨ x0 = 52) (hD : dd f g m) (h : d_X3_addPlace_b88 x0 x1 x2 x4 x5 s0 s1 s2 (x0 + 7) m = some x) : (∀ s', x = .inl s' → dd f g s'.2) ∧ (∀ e, x = .inr e → dd f g e) := by
  unfold d_X3_addPlace_b88 at h
  by_cases c1 : (Int32.toInt ((x2 >>> (x5 &&& 31)) &&& (1 : Int32))) = 0
  · rw [if_pos c1] at h
    cases h
    exact ⟨fun _ q => by cases q; exact (dd_wi (dd_wi hD (by omega)) (by omega)), fun _ q => by cases q⟩
  · rw [if_neg c1] at h
    cases h
    exact ⟨fun _ q => by cases q; exact (dd_wi (dd_wi hD (by omega)) (by omega)), fun _ q => by cases q⟩
theorem dd_X3_addPlace_l56 {m : dc_M} {f g : Int32} {x0 : Nat} {x1 : Int32} {x2 : Int32} {x4 : Int32} {x5 : Int32} {e : dc_M} (hx : x0 = 41 ∨ x0 = 52) (hD : dd f g m) (h : d_X3_addPlace_l56 x0 x1 x2 x4 x5 m = some e) : dd f g e := by
  unfold d_X3_addPlace_l56 at h
  refine dc_lp_inv (fun s => dd f g s.2) (fun e => dd f g e) (fun s s' hI e1 => ?_) (fun s e' hI e1 => ?_) hD h
  · unfold d_X3_addPlace_l56s d_X3_addPlace_l56b at e1
    by_cases c1 : (Int32.toInt (s.2.1 x0 1)) ≤ (Int32.toInt s.1)
    · rw [if_pos c1] at e1
      cases e1
    · rw [if_neg c1] at e1
      by_cases c2 : (Int32.toInt ((x1 >>> (s.1 &&& 31)) &&& (1 : Int32))) = 0
      · rw [if_pos c2] at e1
        exact (dd_X3_addPlace_b88 hx hI e1).1 _ rfl
      · rw [if_neg c2] at e1
        exact (dd_X3_addPlace_b88 hx hI e1).1 _ rfl
  · unfold d_X3_addPlace_l56s d_X3_addPlace_l56b at e1
    by_cases c1 : (Int32.toInt (s.2.1 x0 1)) ≤ (Int32.toInt s.1)
    · rw [if_pos c1] at e1
      cases e1
      exact (dd_wi hI (by omega))
    · rw [if_neg c1] at e1
      by_cases c2 : (Int32.toInt ((x1 >>> (s.1 &&& 31)) &&& (1 : Int32))) = 0
      · rw [if_pos c2] at e1
        exact (dd_X3_addPlace_b88 hx hI e1).2 _ rfl
      · rw [if_neg c2] at e1
        exact (dd_X3_addPlace_b88 hx hI e1).2 _ rfl
theorem dd_X3_addPlace {m : dc_M} {f g : Int32} {x0 : Nat} {x1 : Int32} {x2 : Int32} {x3 : Int32} {e : dc_M} (hx : x0 = 41 ∨ x0 = 52) (hD : dd f g m) (h : d_X3_addPlace x0 x1 x2 x3 m = some e) : dd f g e := by
  unfold d_X3_addPlace at h
  by_cases c1 : (Int32.toInt (m.1 x0 2)) < 20
  · rw [if_pos c1] at h
    exact dd_X3_addPlace_l56 hx (dd_wi (dd_wi (dd_wi hD (by omega)) (by omega)) (by omega)) h
  · rw [if_neg c1] at h
    cases h
    exact hD
theorem dd_X4_numberOf {m : dc_M} {f g : Int32} {x1 : Int32} {x2 : Int32} {x3 : Int32} {e : (Int32 × dc_M)} (hD : dd f g m) (h : d_X4_numberOf 2 x1 x2 x3 m = some e) : dd f g e.2 := by
  unfold d_X4_numberOf at h
  cases hq1 : (d_X3_eventLike (m.2.2.1 2 8) x1 x2 x3 m) with
  | none => rw [hq1] at h; cases h
  | some q1 =>
    rw [hq1, Option.bind_some] at h
    by_cases c1 : (Int32.toInt q1) < 0
    · rw [if_pos c1] at h
      have dq2 : dd f g ((d_X3_addEvent (m.2.2.1 2 8) x1 x2 x3 m).2) := dd_X3_addEvent hD.2.2.2 hD
      generalize (d_X3_addEvent (m.2.2.1 2 8) x1 x2 x3 m) = q2 at h dq2
      rw [dc_let_eq] at h
      cases h
      exact dq2
    · rw [if_neg c1] at h
      cases h
      exact hD
theorem dd_X4_readIndex {m : dc_M} {f g : Int32}  {e : (Int32 × dc_M)} (hD : dd f g m) (h : d_X4_readIndex 2 m = some e) : dd f g e.2 := by
  unfold d_X4_readIndex at h
  cases hq1 : (d_X4_take 2 m) with
  | none => rw [hq1] at h; cases h
  | some q1 =>
    rw [hq1, Option.bind_some] at h
    have dq1 := dd_take hD hq1
    by_cases c1 : (Int32.toInt (q1.1 2 5)) = 2
    · rw [if_pos c1] at h
      cases hq2 : (d_X4_take 2 q1) with
      | none => rw [hq2] at h; cases h
      | some q2 =>
        rw [hq2, Option.bind_some] at h
        have dq2 := dd_take dq1 hq2
        cases h
        exact dq2
    · rw [if_neg c1] at h
      have dq3 : dd f g (d_X4_refuse 2 (2 : Int32) (q1.1 2 6) q1) := dd_refuse dq1
      generalize (d_X4_refuse 2 (2 : Int32) (q1.1 2 6) q1) = q3 at h dq3
      rw [dc_let_eq] at h
      cases h
      exact dq3
theorem dd_X4_takeSign {m : dc_M} {f g : Int32} {x1 : Int32} {e : dc_M} (hD : dd f g m) (h : d_X4_takeSign 2 x1 m = some e) : dd f g e := by
  unfold d_X4_takeSign at h
  by_cases c1 : (Int32.toInt (d_X4_isSign 2 x1 m)) = 0
  · rw [if_pos c1] at h
    have dq1 : dd f g (d_X4_refuse 2 (2 : Int32) (m.1 2 6) m) := dd_refuse hD
    generalize (d_X4_refuse 2 (2 : Int32) (m.1 2 6) m) = q1 at h dq1
    rw [dc_let_eq] at h
    cases h
    exact dq1
  · rw [if_neg c1] at h
    cases hq2 : (d_X4_take 2 m) with
    | none => rw [hq2] at h; cases h
    | some q2 =>
      rw [hq2, Option.bind_some] at h
      have dq2 := dd_take hD hq2
      cases h
      exact dq2
theorem dd_X4_readEvent_b151 {m : dc_M} {f g : Int32} {x1 : Int32} {x2 : Int32} {s0 : Int32} {e : (Int32 × dc_M)} (hD : dd f g m) (h : d_X4_readEvent_b151 2 x1 x2 s0 m = some e) : dd f g e.2 := by
  unfold d_X4_readEvent_b151 at h
  by_cases c1 : 0 ≤ (Int32.toInt s0)
  · rw [if_pos c1] at h
    by_cases c2 : (Int32.toInt ((x1 >>> (s0 &&& 31)) &&& (1 : Int32))) = 0
    · rw [if_pos c2] at h
      cases h
      exact hD
    · rw [if_neg c2] at h
      have dq1 : dd f g (d_X4_refuse 2 (5 : Int32) x2 m) := dd_refuse hD
      generalize (d_X4_refuse 2 (5 : Int32) x2 m) = q1 at h dq1
      rw [dc_let_eq] at h
      cases h
      exact dq1
  · rw [if_neg c1] at h
    have dq2 : dd f g (d_X4_refuse 2 (6 : Int32) x2 m) := dd_refuse hD
    generalize (d_X4_refuse 2 (6 : Int32) x2 m) = q2 at h dq2
    rw [dc_let_eq] at h
    cases h
    exact dq2
theorem dd_X4_readEvent_b128 {m : dc_M} {f g : Int32} {x1 : Int32} {x2 : Int32} {x3 : Int32} {x4 : Int32} {s0 : Int32} {e : (Int32 × dc_M)} (hD : dd f g m) (h : d_X4_readEvent_b128 2 x1 x2 x3 x4 s0 m = some e) : dd f g e.2 := by
  unfold d_X4_readEvent_b128 at h
  by_cases c1 : ¬ (Int32.toInt (m.1 2 2)) = 0
  · rw [if_pos c1] at h
    exact dd_X4_readEvent_b151  hD h
  · rw [if_neg c1] at h
    cases hq1 : (d_X4_numberOf 2 x3 x4 s0 m) with
    | none => rw [hq1] at h; cases h
    | some q1 =>
      rw [hq1, Option.bind_some] at h
      have dq1 := dd_X4_numberOf hD hq1
      exact dd_X4_readEvent_b151  dq1 h
theorem dd_X4_readEvent_b105 {m : dc_M} {f g : Int32} {x1 : Int32} {x2 : Int32} {x3 : Int32} {s0 : Int32} {e : (Int32 × dc_M)} (hD : dd f g m) (h : d_X4_readEvent_b105 2 x1 x2 x3 s0 m = some e) : dd f g e.2 := by
  unfold d_X4_readEvent_b105 at h
  cases hq1 : (d_X4_take 2 m) with
  | none => rw [hq1] at h; cases h
  | some q1 =>
    rw [hq1, Option.bind_some] at h
    have dq1 := dd_take hD hq1
    by_cases c1 : (Int32.toInt (d_X4_isSign 2 (47 : Int32) q1)) = 0
    · rw [if_pos c1] at h
      exact dd_X4_readEvent_b128  dq1 h
    · rw [if_neg c1] at h
      cases hq2 : (d_X4_readIndex 2 q1) with
      | none => rw [hq2] at h; cases h
      | some q2 =>
        rw [hq2, Option.bind_some] at h
        have dq2 := dd_X4_readIndex dq1 hq2
        exact dd_X4_readEvent_b128  dq2 h
theorem dd_X4_readEvent_b91 {m : dc_M} {f g : Int32} {x1 : Int32} {x2 : Int32} {x3 : Int32} {e : (Int32 × dc_M)} (hD : dd f g m) (h : d_X4_readEvent_b91 2 x1 x2 x3 m = some e) : dd f g e.2 := by
  unfold d_X4_readEvent_b91 at h
  by_cases c1 : ¬ (Int32.toInt (m.1 2 7)) = 43
  · rw [if_pos c1] at h
    exact dd_X4_readEvent_b105  hD h
  · rw [if_neg c1] at h
    exact dd_X4_readEvent_b105  hD h
theorem dd_X4_readEvent_b31 {m : dc_M} {f g : Int32} {x1 : Int32} {x2 : Int32} {s0 : Int32} {e : (Int32 × dc_M)} (hD : dd f g m) (h : d_X4_readEvent_b31 2 x1 x2 s0 m = some e) : dd f g e.2 := by
  unfold d_X4_readEvent_b31 at h
  by_cases c1 : 0 ≤ (Int32.toInt s0)
  · rw [if_pos c1] at h
    cases hq1 : (d_X4_take 2 m) with
    | none => rw [hq1] at h; cases h
    | some q1 =>
      rw [hq1, Option.bind_some] at h
      have dq1 := dd_take hD hq1
      by_cases c2 : ¬ (Int32.toInt (d_X4_isSign 2 (43 : Int32) q1)) = 0
      · rw [if_pos c2] at h
        exact dd_X4_readEvent_b91  dq1 h
      · rw [if_neg c2] at h
        by_cases c3 : ¬ (Int32.toInt (d_X4_isSign 2 (45 : Int32) q1)) = 0
        · rw [if_pos c3] at h
          exact dd_X4_readEvent_b91  dq1 h
        · rw [if_neg c3] at h
          have dq2 : dd f g (d_X4_refuse 2 (2 : Int32) (q1.1 2 6) q1) := dd_refuse dq1
          generalize (d_X4_refuse 2 (2 : Int32) (q1.1 2 6) q1) = q2 at h dq2
          rw [dc_let_eq] at h
          cases h
          exact dq2
  · rw [if_neg c1] at h
    by_cases c4 : (Int32.toInt (d_X4_isLetter 2 m)) = 0
    · rw [if_pos c4] at h
      have dq3 : dd f g (d_X4_refuse 2 (2 : Int32) (m.1 2 6) m) := dd_refuse hD
      generalize (d_X4_refuse 2 (2 : Int32) (m.1 2 6) m) = q3 at h dq3
      rw [dc_let_eq] at h
      cases h
      exact dq3
    · rw [if_neg c4] at h
      have dq4 : dd f g (d_X4_refuse 2 (4 : Int32) (m.1 2 6) m) := dd_refuse hD
      generalize (d_X4_refuse 2 (4 : Int32) (m.1 2 6) m) = q4 at h dq4
      rw [dc_let_eq] at h
      cases h
      exact dq4
theorem dd_X4_readEvent {m : dc_M} {f g : Int32} {x1 : Int32} {e : (Int32 × dc_M)} (hD : dd f g m) (h : d_X4_readEvent 2 x1 m = some e) : dd f g e.2 := by
  unfold d_X4_readEvent at h
  by_cases c1 : (Int32.toInt (d_X4_isLetter 2 m)) = 0
  · rw [if_pos c1] at h
    exact dd_X4_readEvent_b31  hD h
  · rw [if_neg c1] at h
    cases hq1 : (d_X3_wireCalled (m.2.2.1 2 8) ((m.1 2 7) - (97 : Int32)) m) with
    | none => rw [hq1] at h; cases h
    | some q1 =>
      rw [hq1, Option.bind_some] at h
      exact dd_X4_readEvent_b31  hD h
theorem dd_X4_readPlace_b99 {m : dc_M} {f g : Int32} {x1 : Int32} {x2 : Int32} {e : dc_M} (hD : dd f g m) (h : d_X4_readPlace_b99 2 x1 x2 m = some e) : dd f g e := by
  unfold d_X4_readPlace_b99 at h
  by_cases c1 : (Int32.toInt (m.1 2 5)) = 2
  · rw [if_pos c1] at h
    by_cases c2 : (Int32.toInt ((m.1 2 7) - (48 : Int32))) ≤ 1
    · rw [if_pos c2] at h
      cases hq1 : (d_X4_take 2 m) with
      | none => rw [hq1] at h; cases h
      | some q1 =>
        rw [hq1, Option.bind_some] at h
        have dq1 := dd_take hD hq1
        cases hq2 : (d_X4_takeSign 2 (59 : Int32) q1) with
        | none => rw [hq2] at h; cases h
        | some q2 =>
          rw [hq2, Option.bind_some] at h
          have dq2 := dd_X4_takeSign dq1 hq2
          cases hq3 : (d_X3_addPlace (q2.2.2.1 2 8) x1 x2 ((m.1 2 7) - (48 : Int32)) q2) with
          | none => rw [hq3] at h; cases h
          | some q3 =>
            rw [hq3, Option.bind_some] at h
            have dq3 := dd_X3_addPlace dq2.2.2.2 dq2 hq3
            cases h
            exact dq3
    · rw [if_neg c2] at h
      have dq4 : dd f g (d_X4_refuse 2 (3 : Int32) (m.1 2 6) m) := dd_refuse hD
      generalize (d_X4_refuse 2 (3 : Int32) (m.1 2 6) m) = q4 at h dq4
      rw [dc_let_eq] at h
      cases h
      exact dq4
  · rw [if_neg c1] at h
    have dq5 : dd f g (d_X4_refuse 2 (2 : Int32) (m.1 2 6) m) := dd_refuse hD
    generalize (d_X4_refuse 2 (2 : Int32) (m.1 2 6) m) = q5 at h dq5
    rw [dc_let_eq] at h
    cases h
    exact dq5
theorem dd_X4_readPlace_l72 {m : dc_M} {f g : Int32} {x1 : Int32} {x2 : Int32} {x3 : Int32} {e : dc_M} (hD : dd f g m) (h : d_X4_readPlace_l72 2 x1 x2 x3 m = some e) : dd f g e := by
  unfold d_X4_readPlace_l72 at h
  refine dc_lp_inv (fun s => dd f g s.2.2) (fun e => dd f g e) (fun s s' hI e1 => ?_) (fun s e' hI e1 => ?_) hD h
  · unfold d_X4_readPlace_l72s d_X4_readPlace_l72b at e1
    by_cases c1 : 16 ≤ (Int32.toInt s.2.1)
    · rw [if_pos c1] at e1
      cases hz : d_X4_readPlace_b99 2 x1 s.1 s.2.2 with
      | none => rw [hz] at e1; cases e1
      | some z =>
        rw [hz] at e1
        cases e1
    · rw [if_neg c1] at e1
      by_cases c2 : (Int32.toInt (d_X4_isLetter 2 s.2.2)) = 0
      · rw [if_pos c2] at e1
        cases hz : d_X4_readPlace_b99 2 x1 s.1 s.2.2 with
        | none => rw [hz] at e1; cases e1
        | some z =>
          rw [hz] at e1
          cases e1
      · rw [if_neg c2] at e1
        cases hq1 : (d_X4_readEvent 2 s.1 s.2.2) with
        | none => rw [hq1] at e1; cases e1
        | some q1 =>
          rw [hq1, Option.bind_some] at e1
          have dq1 := dd_X4_readEvent hI hq1
          cases e1
          exact dq1
  · unfold d_X4_readPlace_l72s d_X4_readPlace_l72b at e1
    by_cases c1 : 16 ≤ (Int32.toInt s.2.1)
    · rw [if_pos c1] at e1
      cases hz : d_X4_readPlace_b99 2 x1 s.1 s.2.2 with
      | none => rw [hz] at e1; cases e1
      | some z =>
        rw [hz] at e1
        cases e1
        exact dd_X4_readPlace_b99  hI hz
    · rw [if_neg c1] at e1
      by_cases c2 : (Int32.toInt (d_X4_isLetter 2 s.2.2)) = 0
      · rw [if_pos c2] at e1
        cases hz : d_X4_readPlace_b99 2 x1 s.1 s.2.2 with
        | none => rw [hz] at e1; cases e1
        | some z =>
          rw [hz] at e1
          cases e1
          exact dd_X4_readPlace_b99  hI hz
      · rw [if_neg c2] at e1
        cases hq1 : (d_X4_readEvent 2 s.1 s.2.2) with
        | none => rw [hq1] at e1; cases e1
        | some q1 =>
          rw [hq1, Option.bind_some] at e1
          have dq1 := dd_X4_readEvent hI hq1
          cases e1
theorem dd_X4_readPlace_b58 {m : dc_M} {f g : Int32} {x1 : Int32} {e : dc_M} (hD : dd f g m) (h : d_X4_readPlace_b58 2 x1 m = some e) : dd f g e := by
  unfold d_X4_readPlace_b58 at h
  cases hq1 : (d_X4_takeSign 2 (62 : Int32) m) with
  | none => rw [hq1] at h; cases h
  | some q1 =>
    rw [hq1, Option.bind_some] at h
    have dq1 := dd_X4_takeSign hD hq1
    cases hq2 : (d_X4_readEvent 2 (0 : Int32) q1) with
    | none => rw [hq2] at h; cases h
    | some q2 =>
      rw [hq2, Option.bind_some] at h
      have dq2 := dd_X4_readEvent dq1 hq2
      exact dd_X4_readPlace_l72  dq2 h
theorem dd_X4_readPlace_l31 {m : dc_M} {f g : Int32} {x1 : Int32} {x2 : Int32} {e : dc_M} (hD : dd f g m) (h : d_X4_readPlace_l31 2 x1 x2 m = some e) : dd f g e := by
  unfold d_X4_readPlace_l31 at h
  refine dc_lp_inv (fun s => dd f g s.2.2) (fun e => dd f g e) (fun s s' hI e1 => ?_) (fun s e' hI e1 => ?_) hD h
  · unfold d_X4_readPlace_l31s d_X4_readPlace_l31b at e1
    by_cases c1 : 16 < (Int32.toInt s.2.1)
    · rw [if_pos c1] at e1
      cases hz : d_X4_readPlace_b58 2 s.1 s.2.2 with
      | none => rw [hz] at e1; cases e1
      | some z =>
        rw [hz] at e1
        cases e1
    · rw [if_neg c1] at e1
      by_cases c2 : (Int32.toInt (d_X4_isLetter 2 s.2.2)) = 0
      · rw [if_pos c2] at e1
        cases hz : d_X4_readPlace_b58 2 s.1 s.2.2 with
        | none => rw [hz] at e1; cases e1
        | some z =>
          rw [hz] at e1
          cases e1
      · rw [if_neg c2] at e1
        cases hq1 : (d_X4_readEvent 2 s.1 s.2.2) with
        | none => rw [hq1] at e1; cases e1
        | some q1 =>
          rw [hq1, Option.bind_some] at e1
          have dq1 := dd_X4_readEvent hI hq1
          cases e1
          exact dq1
  · unfold d_X4_readPlace_l31s d_X4_readPlace_l31b at e1
    by_cases c1 : 16 < (Int32.toInt s.2.1)
    · rw [if_pos c1] at e1
      cases hz : d_X4_readPlace_b58 2 s.1 s.2.2 with
      | none => rw [hz] at e1; cases e1
      | some z =>
        rw [hz] at e1
        cases e1
        exact dd_X4_readPlace_b58  hI hz
    · rw [if_neg c1] at e1
      by_cases c2 : (Int32.toInt (d_X4_isLetter 2 s.2.2)) = 0
      · rw [if_pos c2] at e1
        cases hz : d_X4_readPlace_b58 2 s.1 s.2.2 with
        | none => rw [hz] at e1; cases e1
        | some z =>
          rw [hz] at e1
          cases e1
          exact dd_X4_readPlace_b58  hI hz
      · rw [if_neg c2] at e1
        cases hq1 : (d_X4_readEvent 2 s.1 s.2.2) with
        | none => rw [hq1] at e1; cases e1
        | some q1 =>
          rw [hq1, Option.bind_some] at e1
          have dq1 := dd_X4_readEvent hI hq1
          cases e1
theorem dd_X4_readPlace {m : dc_M} {f g : Int32}  {e : dc_M} (hD : dd f g m) (h : d_X4_readPlace 2 m = some e) : dd f g e := by
  unfold d_X4_readPlace at h
  by_cases c1 : (Int32.toInt (m.1 (m.2.2.1 2 8) 2)) < 20
  · rw [if_pos c1] at h
    cases hq1 : (d_X4_take 2 m) with
    | none => rw [hq1] at h; cases h
    | some q1 =>
      rw [hq1, Option.bind_some] at h
      have dq1 := dd_take hD hq1
      exact dd_X4_readPlace_l31  dq1 h
  · rw [if_neg c1] at h
    have dq2 : dd f g (d_X4_refuse 2 (6 : Int32) (m.1 2 6) m) := dd_refuse hD
    generalize (d_X4_refuse 2 (6 : Int32) (m.1 2 6) m) = q2 at h dq2
    rw [dc_let_eq] at h
    cases h
    exact dq2
theorem dd_X4_readWire {m : dc_M} {f g : Int32} {x1 : Int32} {e : dc_M} (hD : dd f g m) (h : d_X4_readWire 2 x1 m = some e) : dd f g e := by
  unfold d_X4_readWire at h
  by_cases c1 : (Int32.toInt (m.1 (m.2.2.1 2 8) 0)) < 6
  · rw [if_pos c1] at h
    cases hq1 : (d_X4_take 2 m) with
    | none => rw [hq1] at h; cases h
    | some q1 =>
      rw [hq1, Option.bind_some] at h
      have dq1 := dd_take hD hq1
      by_cases c2 : ¬ (Int32.toInt (d_X4_isLetter 2 q1)) = 0
      · rw [if_pos c2] at h
        cases hq2 : (d_X3_wireCalled (q1.2.2.1 2 8) ((q1.1 2 7) - (97 : Int32)) q1) with
        | none => rw [hq2] at h; cases h
        | some q2 =>
          rw [hq2, Option.bind_some] at h
          by_cases c3 : (Int32.toInt q2) < 0
          · rw [if_pos c3] at h
            have dq3 : dd f g ((d_X3_addWire (q1.2.2.1 2 8) ((q1.1 2 7) - (97 : Int32)) x1 q1).2) := dd_X3_addWire dq1.2.2.2 dq1
            generalize (d_X3_addWire (q1.2.2.1 2 8) ((q1.1 2 7) - (97 : Int32)) x1 q1) = q3 at h dq3
            rw [dc_let_eq] at h
            cases hq4 : (d_X4_take 2 q3.2) with
            | none => rw [hq4] at h; cases h
            | some q4 =>
              rw [hq4, Option.bind_some] at h
              have dq4 := dd_take dq3 hq4
              cases hq5 : (d_X4_takeSign 2 (59 : Int32) q4) with
              | none => rw [hq5] at h; cases h
              | some q5 =>
                rw [hq5, Option.bind_some] at h
                have dq5 := dd_X4_takeSign dq4 hq5
                cases h
                exact dq5
          · rw [if_neg c3] at h
            have dq6 : dd f g (d_X4_refuse 2 (4 : Int32) (q1.1 2 6) q1) := dd_refuse dq1
            generalize (d_X4_refuse 2 (4 : Int32) (q1.1 2 6) q1) = q6 at h dq6
            rw [dc_let_eq] at h
            cases h
            exact dq6
      · rw [if_neg c2] at h
        have dq7 : dd f g (d_X4_refuse 2 (2 : Int32) (q1.1 2 6) q1) := dd_refuse dq1
        generalize (d_X4_refuse 2 (2 : Int32) (q1.1 2 6) q1) = q7 at h dq7
        rw [dc_let_eq] at h
        cases h
        exact dq7
  · rw [if_neg c1] at h
    have dq8 : dd f g (d_X4_refuse 2 (6 : Int32) (m.1 2 6) m) := dd_refuse hD
    generalize (d_X4_refuse 2 (6 : Int32) (m.1 2 6) m) = q8 at h dq8
    rw [dc_let_eq] at h
    cases h
    exact dq8
theorem dd_X4_readLine {m : dc_M} {f g : Int32}  {e : dc_M} (hD : dd f g m) (h : d_X4_readLine 2 m = some e) : dd f g e := by
  unfold d_X4_readLine at h
  cases hq1 : (d_X4_isWord 2 1 m) with
  | none => rw [hq1] at h; cases h
  | some q1 =>
    rw [hq1, Option.bind_some] at h
    by_cases c1 : (Int32.toInt q1) = 0
    · rw [if_pos c1] at h
      cases hq2 : (d_X4_isWord 2 2 m) with
      | none => rw [hq2] at h; cases h
      | some q2 =>
        rw [hq2, Option.bind_some] at h
        by_cases c2 : (Int32.toInt q2) = 0
        · rw [if_pos c2] at h
          cases hq3 : (d_X4_isWord 2 3 m) with
          | none => rw [hq3] at h; cases h
          | some q3 =>
            rw [hq3, Option.bind_some] at h
            by_cases c3 : (Int32.toInt q3) = 0
            · rw [if_pos c3] at h
              cases hq4 : (d_X4_isWord 2 4 m) with
              | none => rw [hq4] at h; cases h
              | some q4 =>
                rw [hq4, Option.bind_some] at h
                by_cases c4 : (Int32.toInt q4) = 0
                · rw [if_pos c4] at h
                  have dq5 : dd f g (d_X4_refuse 2 (2 : Int32) (m.1 2 6) m) := dd_refuse hD
                  generalize (d_X4_refuse 2 (2 : Int32) (m.1 2 6) m) = q5 at h dq5
                  rw [dc_let_eq] at h
                  cases h
                  exact dq5
                · rw [if_neg c4] at h
                  cases hq6 : (d_X4_readPlace 2 m) with
                  | none => rw [hq6] at h; cases h
                  | some q6 =>
                    rw [hq6, Option.bind_some] at h
                    have dq6 := dd_X4_readPlace hD hq6
                    cases h
                    exact dq6
            · rw [if_neg c3] at h
              cases hq7 : (d_X4_readWire 2 (2 : Int32) m) with
              | none => rw [hq7] at h; cases h
              | some q7 =>
                rw [hq7, Option.bind_some] at h
                have dq7 := dd_X4_readWire hD hq7
                cases h
                exact dq7
        · rw [if_neg c2] at h
          cases hq8 : (d_X4_readWire 2 (1 : Int32) m) with
          | none => rw [hq8] at h; cases h
          | some q8 =>
            rw [hq8, Option.bind_some] at h
            have dq8 := dd_X4_readWire hD hq8
            cases h
            exact dq8
    · rw [if_neg c1] at h
      cases hq9 : (d_X4_readWire 2 (0 : Int32) m) with
      | none => rw [hq9] at h; cases h
      | some q9 =>
        rw [hq9, Option.bind_some] at h
        have dq9 := dd_X4_readWire hD hq9
        cases h
        exact dq9
/-- the reference has found the fault f at g -/
def de (f g : Int32) (m : dc_M) : Prop := m.1 82 15 = f ∧ m.1 82 16 = g ∧ 0 < f.toInt
theorem de_wi {f g v : Int32} {m : dc_M} {a k : Nat} (h : de f g m) (hs : ¬ (a = 82 ∧ (k = 15 ∨ k = 16))) : de f g (dc_wi m a k v) := ⟨(wi_k (by omega)).trans h.1, (wi_k (by omega)).trans h.2.1, h.2.2⟩
theorem de_next {f g : Int32} {m e : dc_M} (h : de f g m) (q : d_X10_next 82 m = some e) : de f g e := by
  unfold d_X10_next at q
  rw [if_neg (by rw [h.1]; have := h.2.2; omega)] at q
  cases q
  exact h
theorem de_failsAt {f g w a : Int32} {m : dc_M} (h : de f g m) : de f g (d_X10_failsAt 82 w a m) := by
  rw [fa_1 (by rw [h.1]; have := h.2.2; omega)]
  exact h
theorem de_fails {f g w : Int32} {m : dc_M} (h : de f g m) : de f g (d_X10_fails 82 w m) := de_failsAt h
theorem de_X10_readEvent_b350 {m : dc_M} {f g : Int32} {x1 : Int32} {x6 : Int32} {x7 : Int32} {e : dc_M} (hD : de f g m) (h : d_X10_readEvent_b350 82 x1 x6 x7 m = some e) : de f g e := by
  unfold d_X10_readEvent_b350 d_X10_readEvent_b368 at h
  split at h <;> (cases h; exact de_wi (de_wi hD (by omega)) (by omega))
theorem de_X10_readEvent_b172 {m : dc_M} {f g : Int32} {x1 : Int32} {x2 : Int32} {x3 : Int32} {x4 : Int32} {x5 : Int32} {e : dc_M} (hD : de f g m) (h : d_X10_readEvent_b172 82 x1 x2 x3 x4 x5 m = some e) : de f g e := by
  unfold d_X10_readEvent_b172 at h
  rw [if_neg (by rw [hD.1]; have := hD.2.2; omega)] at h
  cases h
  exact hD
theorem de_X10_readEvent_b162 {m : dc_M} {f g : Int32} {x1 : Int32} {x2 : Int32} {x3 : Int32} {x4 : Int32} {e : dc_M} (hD : de f g m) (h : d_X10_readEvent_b162 82 x1 x2 x3 x4 m = some e) : de f g e := by
  unfold d_X10_readEvent_b162 at h
  cases hq1 : (d_X10_next 82 m) with
  | none => rw [hq1] at h; cases h
  | some q1 =>
    rw [hq1, Option.bind_some] at h
    have dq1 := de_next hD hq1
    exact de_X10_readEvent_b172  dq1 h
theorem de_X10_readEvent_b113 {m : dc_M} {f g : Int32} {x1 : Int32} {x2 : Int32} {x3 : Int32} {s0 : Int32} {e : dc_M} (hD : de f g m) (h : d_X10_readEvent_b113 82 x1 x2 x3 s0 m = some e) : de f g e := by
  unfold d_X10_readEvent_b113 at h
  cases hq1 : (d_X10_next 82 m) with
  | none => rw [hq1] at h; cases h
  | some q1 =>
    rw [hq1, Option.bind_some] at h
    have dq1 := de_next hD hq1
    by_cases c1 : ¬ (Int32.toInt (q1.1 82 15)) = 0
    · rw [if_pos c1] at h
      exact de_X10_readEvent_b172  dq1 h
    · rw [if_neg c1] at h
      by_cases c2 : (Int32.toInt (d_X10_isSign 82 (47 : Int32) q1)) = 0
      · rw [if_pos c2] at h
        exact de_X10_readEvent_b172  dq1 h
      · rw [if_neg c2] at h
        cases hq2 : (d_X10_next 82 q1) with
        | none => rw [hq2] at h; cases h
        | some q2 =>
          rw [hq2, Option.bind_some] at h
          have dq2 := de_next dq1 hq2
          by_cases c3 : ¬ (Int32.toInt (q2.1 82 15)) = 0
          · rw [if_pos c3] at h
            exact de_X10_readEvent_b162  dq2 h
          · rw [if_neg c3] at h
            by_cases c4 : (Int32.toInt (q2.1 82 19)) = 2
            · rw [if_pos c4] at h
              exact de_X10_readEvent_b162  dq2 h
            · rw [if_neg c4] at h
              have dq3 : de f g (d_X10_fails 82 (2 : Int32) q2) := de_fails dq2
              generalize (d_X10_fails 82 (2 : Int32) q2) = q3 at h dq3
              rw [dc_let_eq] at h
              exact de_X10_readEvent_b162  dq3 h
theorem de_X10_readEvent_b99 {m : dc_M} {f g : Int32} {x1 : Int32} {x2 : Int32} {x3 : Int32} {e : dc_M} (hD : de f g m) (h : d_X10_readEvent_b99 82 x1 x2 x3 m = some e) : de f g e := by
  unfold d_X10_readEvent_b99 at h
  by_cases c1 : (Int32.toInt (d_X10_isSign 82 (43 : Int32) m)) = 0
  · rw [if_pos c1] at h
    exact de_X10_readEvent_b113  hD h
  · rw [if_neg c1] at h
    exact de_X10_readEvent_b113  hD h
theorem de_X10_readEvent_b65 {m : dc_M} {f g : Int32} {x1 : Int32} {x2 : Int32} {x3 : Int32} {e : dc_M} (hD : de f g m) (h : d_X10_readEvent_b65 82 x1 x2 x3 m = some e) : de f g e := by
  unfold d_X10_readEvent_b65 at h
  cases hq1 : (d_X10_next 82 m) with
  | none => rw [hq1] at h; cases h
  | some q1 =>
    rw [hq1, Option.bind_some] at h
    have dq1 := de_next hD hq1
    by_cases c1 : ¬ (Int32.toInt (q1.1 82 15)) = 0
    · rw [if_pos c1] at h
      exact de_X10_readEvent_b99  dq1 h
    · rw [if_neg c1] at h
      by_cases c2 : ¬ (Int32.toInt (d_X10_isSign 82 (43 : Int32) q1)) = 0
      · rw [if_pos c2] at h
        exact de_X10_readEvent_b99  dq1 h
      · rw [if_neg c2] at h
        by_cases c3 : ¬ (Int32.toInt (d_X10_isSign 82 (45 : Int32) q1)) = 0
        · rw [if_pos c3] at h
          exact de_X10_readEvent_b99  dq1 h
        · rw [if_neg c3] at h
          have dq2 : de f g (d_X10_fails 82 (2 : Int32) q1) := de_fails dq1
          generalize (d_X10_fails 82 (2 : Int32) q1) = q2 at h dq2
          rw [dc_let_eq] at h
          exact de_X10_readEvent_b99  dq2 h
theorem de_X10_readEvent_b46 {m : dc_M} {f g : Int32} {x1 : Int32} {x2 : Int32} {s0 : Int32} {e : dc_M} (hD : de f g m) (h : d_X10_readEvent_b46 82 x1 x2 s0 m = some e) : de f g e := by
  unfold d_X10_readEvent_b46 at h
  by_cases c1 : ¬ (Int32.toInt (m.1 82 15)) = 0
  · rw [if_pos c1] at h
    exact de_X10_readEvent_b65  hD h
  · rw [if_neg c1] at h
    by_cases c2 : ¬ (Int32.toInt s0) = (-4)
    · rw [if_pos c2] at h
      exact de_X10_readEvent_b65  hD h
    · rw [if_neg c2] at h
      have dq1 : de f g (d_X10_fails 82 (4 : Int32) m) := de_fails hD
      generalize (d_X10_fails 82 (4 : Int32) m) = q1 at h dq1
      rw [dc_let_eq] at h
      exact de_X10_readEvent_b65  dq1 h
theorem de_X10_readEvent_b24 {m : dc_M} {f g : Int32} {x1 : Int32} {x2 : Int32} {e : dc_M} (hD : de f g m) (h : d_X10_readEvent_b24 82 x1 x2 m = some e) : de f g e := by
  unfold d_X10_readEvent_b24 at h
  by_cases c1 : ¬ (Int32.toInt (m.1 82 15)) = 0
  · rw [if_pos c1] at h
    exact de_X10_readEvent_b46  hD h
  · rw [if_neg c1] at h
    cases hq1 : (d_X10_wireAt 82 ((m.1 82 20) - (1 : Int32)) m) with
    | none => rw [hq1] at h; cases h
    | some q1 =>
      rw [hq1, Option.bind_some] at h
      exact de_X10_readEvent_b46  hD h
theorem de_X10_readEvent {m : dc_M} {f g : Int32} {x1 : Int32} {e : dc_M} (hD : de f g m) (h : d_X10_readEvent 82 x1 m = some e) : de f g e := by
  unfold d_X10_readEvent at h
  by_cases c1 : ¬ (Int32.toInt (m.1 82 15)) = 0
  · rw [if_pos c1] at h
    exact de_X10_readEvent_b24  hD h
  · rw [if_neg c1] at h
    by_cases c2 : ¬ (Int32.toInt (d_X10_isLetter 82 m)) = 0
    · rw [if_pos c2] at h
      exact de_X10_readEvent_b24  hD h
    · rw [if_neg c2] at h
      have dq1 : de f g (d_X10_fails 82 (2 : Int32) m) := de_fails hD
      generalize (d_X10_fails 82 (2 : Int32) m) = q1 at h dq1
      rw [dc_let_eq] at h
      exact de_X10_readEvent_b24  dq1 h
theorem de_X10_readPlace_b132 {m : dc_M} {f g : Int32}  {s0 : Int32} {s1 : Int32} {e : dc_M} (hD : de f g m) (h : d_X10_readPlace_b132 82 s0 s1 82 m = some e) : de f g e := by
  unfold d_X10_readPlace_b132 at h
  cases hq1 : (d_X10_next 82 (dc_wi m 82 31 (s1 ||| s0))) with
  | none => rw [hq1] at h; cases h
  | some q1 =>
    rw [hq1, Option.bind_some] at h
    have dq1 := de_next (de_wi hD (by omega)) hq1
    by_cases c1 : ¬ (Int32.toInt (q1.1 82 15)) = 0
    · rw [if_pos c1] at h
      cases h
      exact dq1
    · rw [if_neg c1] at h
      cases h
      exact (de_wi dq1 (by omega))
theorem de_X10_readPlace_b102 {m : dc_M} {f g : Int32}  {e : dc_M} (hD : de f g m) (h : d_X10_readPlace_b102 82 m = some e) : de f g e := by
  unfold d_X10_readPlace_b102 at h
  by_cases c1 : ¬ (Int32.toInt (m.1 82 15)) = 0
  · rw [if_pos c1] at h
    exact de_X10_readPlace_b132  hD h
  · rw [if_neg c1] at h
    by_cases c2 : ¬ (Int32.toInt (m.1 82 20)) = 1
    · rw [if_pos c2] at h
      exact de_X10_readPlace_b132  hD h
    · rw [if_neg c2] at h
      exact de_X10_readPlace_b132  hD h
theorem de_X10_readPlace_b82 {m : dc_M} {f g : Int32}  {e : dc_M} (hD : de f g m) (h : d_X10_readPlace_b82 82 m = some e) : de f g e := by
  unfold d_X10_readPlace_b82 at h
  by_cases c1 : ¬ (Int32.toInt (m.1 82 15)) = 0
  · rw [if_pos c1] at h
    exact de_X10_readPlace_b102  hD h
  · rw [if_neg c1] at h
    by_cases c2 : (Int32.toInt (m.1 82 20)) ≤ 1
    · rw [if_pos c2] at h
      exact de_X10_readPlace_b102  hD h
    · rw [if_neg c2] at h
      have dq1 : de f g (d_X10_fails 82 (3 : Int32) m) := de_fails hD
      generalize (d_X10_fails 82 (3 : Int32) m) = q1 at h dq1
      rw [dc_let_eq] at h
      exact de_X10_readPlace_b102  dq1 h
theorem de_X10_readPlace_l49 {m : dc_M} {f g : Int32} {x1 : Int32} {e : dc_M} (hD : de f g m) (h : d_X10_readPlace_l49 82 x1 m = some e) : de f g e := by
  unfold d_X10_readPlace_l49 at h
  refine dc_lp_inv (fun s => de f g s.2) (fun e => de f g e) (fun s s' hI e1 => ?_) (fun s e' hI e1 => ?_) hD h
  · unfold d_X10_readPlace_l49s d_X10_readPlace_l49b at e1
    by_cases c1 : ¬ (Int32.toInt (s.2.1 82 15)) = 0
    · rw [if_pos c1] at e1
      cases hz : d_X10_readPlace_b82 82 s.2 with
      | none => rw [hz] at e1; cases e1
      | some z =>
        rw [hz] at e1
        cases e1
    · rw [if_neg c1] at e1
      by_cases c2 : (Int32.toInt s.1) = 0
      · rw [if_pos c2] at e1
        cases hz : d_X10_readPlace_b82 82 s.2 with
        | none => rw [hz] at e1; cases e1
        | some z =>
          rw [hz] at e1
          cases e1
      · rw [if_neg c2] at e1
        cases hq1 : (d_X10_readEvent 82 (0 : Int32) s.2) with
        | none => rw [hq1] at e1; cases e1
        | some q1 =>
          rw [hq1, Option.bind_some] at e1
          have dq1 := de_X10_readEvent hI hq1
          by_cases c3 : (Int32.toInt (q1.1 82 19)) = 2
          · rw [if_pos c3] at e1
            cases e1
            exact dq1
          · rw [if_neg c3] at e1
            cases e1
            exact dq1
  · unfold d_X10_readPlace_l49s d_X10_readPlace_l49b at e1
    by_cases c1 : ¬ (Int32.toInt (s.2.1 82 15)) = 0
    · rw [if_pos c1] at e1
      cases hz : d_X10_readPlace_b82 82 s.2 with
      | none => rw [hz] at e1; cases e1
      | some z =>
        rw [hz] at e1
        cases e1
        exact de_X10_readPlace_b82  hI hz
    · rw [if_neg c1] at e1
      by_cases c2 : (Int32.toInt s.1) = 0
      · rw [if_pos c2] at e1
        cases hz : d_X10_readPlace_b82 82 s.2 with
        | none => rw [hz] at e1; cases e1
        | some z =>
          rw [hz] at e1
          cases e1
          exact de_X10_readPlace_b82  hI hz
      · rw [if_neg c2] at e1
        cases hq1 : (d_X10_readEvent 82 (0 : Int32) s.2) with
        | none => rw [hq1] at e1; cases e1
        | some q1 =>
          rw [hq1, Option.bind_some] at e1
          have dq1 := de_X10_readEvent hI hq1
          by_cases c3 : (Int32.toInt (q1.1 82 19)) = 2
          · rw [if_pos c3] at e1
            cases e1
          · rw [if_neg c3] at e1
            cases e1
theorem de_X10_readPlace_b43 {m : dc_M} {f g : Int32}  {e : dc_M} (hD : de f g m) (h : d_X10_readPlace_b43 82 m = some e) : de f g e := by
  unfold d_X10_readPlace_b43 at h
  cases hq1 : (d_X10_next 82 m) with
  | none => rw [hq1] at h; cases h
  | some q1 =>
    rw [hq1, Option.bind_some] at h
    have dq1 := de_next hD hq1
    exact de_X10_readPlace_l49  dq1 h
theorem de_X10_readPlace_l19 {m : dc_M} {f g : Int32}  {e : dc_M} (hD : de f g m) (h : d_X10_readPlace_l19 82 m = some e) : de f g e := by
  unfold d_X10_readPlace_l19 at h
  refine dc_lp_inv (fun s => de f g s) (fun e => de f g e) (fun s s' hI e1 => ?_) (fun s e' hI e1 => ?_) hD h
  · unfold d_X10_readPlace_l19s d_X10_readPlace_l19b at e1
    by_cases c1 : ¬ (Int32.toInt (s.1 82 15)) = 0
    · rw [if_pos c1] at e1
      cases hz : d_X10_readPlace_b43 82 s with
      | none => rw [hz] at e1; cases e1
      | some z =>
        rw [hz] at e1
        cases e1
    · rw [if_neg c1] at e1
      by_cases c2 : ¬ (Int32.toInt (d_X10_isSign 82 (62 : Int32) s)) = 0
      · rw [if_pos c2] at e1
        cases hz : d_X10_readPlace_b43 82 s with
        | none => rw [hz] at e1; cases e1
        | some z =>
          rw [hz] at e1
          cases e1
      · rw [if_neg c2] at e1
        cases hq1 : (d_X10_readEvent 82 (1 : Int32) s) with
        | none => rw [hq1] at e1; cases e1
        | some q1 =>
          rw [hq1, Option.bind_some] at e1
          have dq1 := de_X10_readEvent hI hq1
          cases e1
          exact dq1
  · unfold d_X10_readPlace_l19s d_X10_readPlace_l19b at e1
    by_cases c1 : ¬ (Int32.toInt (s.1 82 15)) = 0
    · rw [if_pos c1] at e1
      cases hz : d_X10_readPlace_b43 82 s with
      | none => rw [hz] at e1; cases e1
      | some z =>
        rw [hz] at e1
        cases e1
        exact de_X10_readPlace_b43  hI hz
    · rw [if_neg c1] at e1
      by_cases c2 : ¬ (Int32.toInt (d_X10_isSign 82 (62 : Int32) s)) = 0
      · rw [if_pos c2] at e1
        cases hz : d_X10_readPlace_b43 82 s with
        | none => rw [hz] at e1; cases e1
        | some z =>
          rw [hz] at e1
          cases e1
          exact de_X10_readPlace_b43  hI hz
      · rw [if_neg c2] at e1
        cases hq1 : (d_X10_readEvent 82 (1 : Int32) s) with
        | none => rw [hq1] at e1; cases e1
        | some q1 =>
          rw [hq1, Option.bind_some] at e1
          have dq1 := de_X10_readEvent hI hq1
          cases e1
theorem de_X10_readPlace_b15 {m : dc_M} {f g : Int32}  {e : dc_M} (hD : de f g m) (h : d_X10_readPlace_b15 82 m = some e) : de f g e := by
  unfold d_X10_readPlace_b15 at h
  cases hq1 : (d_X10_next 82 m) with
  | none => rw [hq1] at h; cases h
  | some q1 =>
    rw [hq1, Option.bind_some] at h
    have dq1 := de_next hD hq1
    exact de_X10_readPlace_l19  dq1 h
theorem de_X10_readPlace {m : dc_M} {f g : Int32}  {e : dc_M} (hD : de f g m) (h : d_X10_readPlace 82 m = some e) : de f g e := by
  unfold d_X10_readPlace at h
  by_cases c1 : ¬ (Int32.toInt (m.1 82 30)) = 20
  · rw [if_pos c1] at h
    exact de_X10_readPlace_b15  hD h
  · rw [if_neg c1] at h
    have dq1 : de f g (d_X10_fails 82 (6 : Int32) m) := de_fails hD
    generalize (d_X10_fails 82 (6 : Int32) m) = q1 at h dq1
    rw [dc_let_eq] at h
    exact de_X10_readPlace_b15  dq1 h
theorem de_X10_readWire_b68 {m : dc_M} {f g : Int32} {x1 : Int32} {e : dc_M} (hD : de f g m) (h : d_X10_readWire_b68 82 x1 m = some e) : de f g e := by
  unfold d_X10_readWire_b68 at h
  by_cases c1 : (Int32.toInt (m.1 82 15)) ≤ 0
  · rw [if_pos c1] at h
    cases hq1 : (d_X10_next 82 (dc_wi (dc_wi (dc_wi m (82 + 10) (Int32.toNatClampNeg (m.1 82 21)) ((m.1 82 20) - (1 : Int32))) (82 + 11) (Int32.toNatClampNeg ((dc_wi m (82 + 10) (Int32.toNatClampNeg (m.1 82 21)) ((m.1 82 20) - (1 : Int32))).1 82 21)) x1) 82 21 (((dc_wi (dc_wi m (82 + 10) (Int32.toNatClampNeg (m.1 82 21)) ((m.1 82 20) - (1 : Int32))) (82 + 11) (Int32.toNatClampNeg ((dc_wi m (82 + 10) (Int32.toNatClampNeg (m.1 82 21)) ((m.1 82 20) - (1 : Int32))).1 82 21)) x1).1 82 21) + (1 : Int32)))) with
    | none => rw [hq1] at h; cases h
    | some q1 =>
      rw [hq1, Option.bind_some] at h
      have dq1 := de_next (de_wi (de_wi (de_wi hD (by omega)) (by omega)) (by omega)) hq1
      cases h
      exact dq1
  · rw [if_neg c1] at h
    cases h
    exact hD
theorem de_X10_readWire_b41 {m : dc_M} {f g : Int32} {x1 : Int32} {e : dc_M} (hD : de f g m) (h : d_X10_readWire_b41 82 x1 m = some e) : de f g e := by
  unfold d_X10_readWire_b41 at h
  by_cases c1 : ¬ (Int32.toInt (m.1 82 15)) = 0
  · rw [if_pos c1] at h
    exact de_X10_readWire_b68  hD h
  · rw [if_neg c1] at h
    cases hq1 : (d_X10_wireAt 82 ((m.1 82 20) - (1 : Int32)) m) with
    | none => rw [hq1] at h; cases h
    | some q1 =>
      rw [hq1, Option.bind_some] at h
      by_cases c2 : (Int32.toInt q1) = (-4)
      · rw [if_pos c2] at h
        exact de_X10_readWire_b68  hD h
      · rw [if_neg c2] at h
        have dq2 : de f g (d_X10_fails 82 (4 : Int32) m) := de_fails hD
        generalize (d_X10_fails 82 (4 : Int32) m) = q2 at h dq2
        rw [dc_let_eq] at h
        exact de_X10_readWire_b68  dq2 h
theorem de_X10_readWire_b15 {m : dc_M} {f g : Int32} {x1 : Int32} {e : dc_M} (hD : de f g m) (h : d_X10_readWire_b15 82 x1 m = some e) : de f g e := by
  unfold d_X10_readWire_b15 at h
  cases hq1 : (d_X10_next 82 m) with
  | none => rw [hq1] at h; cases h
  | some q1 =>
    rw [hq1, Option.bind_some] at h
    have dq1 := de_next hD hq1
    by_cases c1 : ¬ (Int32.toInt (q1.1 82 15)) = 0
    · rw [if_pos c1] at h
      exact de_X10_readWire_b41  dq1 h
    · rw [if_neg c1] at h
      by_cases c2 : ¬ (Int32.toInt (d_X10_isLetter 82 q1)) = 0
      · rw [if_pos c2] at h
        exact de_X10_readWire_b41  dq1 h
      · rw [if_neg c2] at h
        have dq2 : de f g (d_X10_fails 82 (2 : Int32) q1) := de_fails dq1
        generalize (d_X10_fails 82 (2 : Int32) q1) = q2 at h dq2
        rw [dc_let_eq] at h
        exact de_X10_readWire_b68  dq2 h
theorem de_X10_readWire {m : dc_M} {f g : Int32} {x1 : Int32} {e : dc_M} (hD : de f g m) (h : d_X10_readWire 82 x1 m = some e) : de f g e := by
  unfold d_X10_readWire at h
  by_cases c1 : ¬ (Int32.toInt (m.1 82 21)) = 6
  · rw [if_pos c1] at h
    exact de_X10_readWire_b15  hD h
  · rw [if_neg c1] at h
    have dq1 : de f g (d_X10_fails 82 (6 : Int32) m) := de_fails hD
    generalize (d_X10_fails 82 (6 : Int32) m) = q1 at h dq1
    rw [dc_let_eq] at h
    exact de_X10_readWire_b15  dq1 h
theorem de_X10_readLine_b129 {m : dc_M} {f g : Int32}  {e : dc_M} (hD : de f g m) (h : d_X10_readLine_b129 82 m = some e) : de f g e := by
  unfold d_X10_readLine_b129 at h
  cases hq1 : (d_X10_next 82 m) with
  | none => rw [hq1] at h; cases h
  | some q1 =>
    rw [hq1, Option.bind_some] at h
    have dq1 := de_next hD hq1
    cases h
    exact dq1
theorem de_X10_readLine_b108 {m : dc_M} {f g : Int32}  {e : dc_M} (hD : de f g m) (h : d_X10_readLine_b108 82 m = some e) : de f g e := by
  unfold d_X10_readLine_b108 at h
  by_cases c1 : ¬ (Int32.toInt (m.1 82 15)) = 0
  · rw [if_pos c1] at h
    exact de_X10_readLine_b129  hD h
  · rw [if_neg c1] at h
    by_cases c2 : ¬ (Int32.toInt (d_X10_isSign 82 (59 : Int32) m)) = 0
    · rw [if_pos c2] at h
      exact de_X10_readLine_b129  hD h
    · rw [if_neg c2] at h
      have dq1 : de f g (d_X10_fails 82 (2 : Int32) m) := de_fails hD
      generalize (d_X10_fails 82 (2 : Int32) m) = q1 at h dq1
      rw [dc_let_eq] at h
      exact de_X10_readLine_b129  dq1 h
theorem de_X10_readLine_b97 {m : dc_M} {f g : Int32}  {s0 : Int32} {e : dc_M} (hD : de f g m) (h : d_X10_readLine_b97 82 s0 82 m = some e) : de f g e := by
  unfold d_X10_readLine_b97 at h
  cases hq1 : (d_X10_readWire 82 s0 m) with
  | none => rw [hq1] at h; cases h
  | some q1 =>
    rw [hq1, Option.bind_some] at h
    have dq1 := de_X10_readWire hD hq1
    exact de_X10_readLine_b108  dq1 h
theorem de_X10_readLine_b67 {m : dc_M} {f g : Int32}  {e : dc_M} (hD : de f g m) (h : d_X10_readLine_b67 82 m = some e) : de f g e := by
  unfold d_X10_readLine_b67 at h
  by_cases c1 : ¬ (Int32.toInt (m.1 82 20)) = 302
  · rw [if_pos c1] at h
    by_cases c2 : ¬ (Int32.toInt (m.1 82 20)) = 16052
    · rw [if_pos c2] at h
      exact de_X10_readLine_b97  hD h
    · rw [if_neg c2] at h
      exact de_X10_readLine_b97  hD h
  · rw [if_neg c1] at h
    exact de_X10_readLine_b97  hD h
theorem de_X10_readLine_b34 {m : dc_M} {f g : Int32} {x1 : Int32} {e : dc_M} (hD : de f g m) (h : d_X10_readLine_b34 82 x1 m = some e) : de f g e := by
  unfold d_X10_readLine_b34 at h
  by_cases c1 : (Int32.toInt x1) = 0
  · rw [if_pos c1] at h
    have dq1 : de f g (d_X10_fails 82 (2 : Int32) m) := de_fails hD
    generalize (d_X10_fails 82 (2 : Int32) m) = q1 at h dq1
    rw [dc_let_eq] at h
    exact de_X10_readLine_b108  dq1 h
  · rw [if_neg c1] at h
    by_cases c2 : (Int32.toInt (m.1 82 20)) = 302
    · rw [if_pos c2] at h
      exact de_X10_readLine_b67  hD h
    · rw [if_neg c2] at h
      by_cases c3 : (Int32.toInt (m.1 82 20)) = 16052
      · rw [if_pos c3] at h
        exact de_X10_readLine_b67  hD h
      · rw [if_neg c3] at h
        by_cases c4 : ¬ (Int32.toInt (m.1 82 20)) = 9910450
        · rw [if_pos c4] at h
          have dq2 : de f g (d_X10_fails 82 (2 : Int32) m) := de_fails hD
          generalize (d_X10_fails 82 (2 : Int32) m) = q2 at h dq2
          rw [dc_let_eq] at h
          exact de_X10_readLine_b108  dq2 h
        · rw [if_neg c4] at h
          exact de_X10_readLine_b67  hD h
theorem de_X10_readLine_b13 {m : dc_M} {f g : Int32}  {s0 : Int32} {e : dc_M} (hD : de f g m) (h : d_X10_readLine_b13 82 s0 m = some e) : de f g e := by
  unfold d_X10_readLine_b13 at h
  by_cases c1 : (Int32.toInt s0) = 0
  · rw [if_pos c1] at h
    exact de_X10_readLine_b34  hD h
  · rw [if_neg c1] at h
    by_cases c2 : ¬ (Int32.toInt (m.1 82 20)) = 17171557
    · rw [if_pos c2] at h
      exact de_X10_readLine_b34  hD h
    · rw [if_neg c2] at h
      cases hq1 : (d_X10_readPlace 82 m) with
      | none => rw [hq1] at h; cases h
      | some q1 =>
        rw [hq1, Option.bind_some] at h
        have dq1 := de_X10_readPlace hD hq1
        exact de_X10_readLine_b108  dq1 h
theorem de_X10_readLine {m : dc_M} {f g : Int32}  {e : dc_M} (hD : de f g m) (h : d_X10_readLine 82 m = some e) : de f g e := by
  unfold d_X10_readLine at h
  by_cases c1 : ¬ (Int32.toInt (m.1 82 19)) = 1
  · rw [if_pos c1] at h
    exact de_X10_readLine_b13  hD h
  · rw [if_neg c1] at h
    exact de_X10_readLine_b13  hD h
