/-! ===== calls that leave the reference's tape, fault and net alone (written by a program) ===== -/
def krc (x k : Nat) : Prop := ¬ (x = 82 ∧ (k = 0 ∨ k = 3 ∨ k = 10 ∨ k = 11 ∨ k = 13 ∨ k = 14 ∨ k = 64)) ∧ ¬ (83 ≤ x ∧ x ≤ 91) ∧ ¬ (115 ≤ x ∧ x ≤ 119)
def kr (m0 m : dc_M) : Prop := ∀ b k, ¬ krc b k → m.1 b k = m0.1 b k
theorem kr_wi {m0 m : dc_M} {x k : Nat} {v : Int32} (h : kr m0 m) (hs : krc x k) : kr m0 (dc_wi m x k v) := fun b j hj => (wi_k (fun q => hj (by rw [q.1, q.2]; exact hs))).trans (h b j hj)
theorem kr_wl {m0 m : dc_M} {x k : Nat} {v : Int64} (h : kr m0 m) (_ : krc x k) : kr m0 (dc_wl m x k v) := h
theorem kr_cp {m0 m : dc_M} {y sp x dp n : Nat} (h : kr m0 m) (hs : ∀ k, krc x k) : kr m0 (dc_cp m y sp x dp n) := fun b j hj => by
  show (if b = x then _ else _) = _
  rw [if_neg (show ¬ b = x from fun q => hj (by rw [q]; exact hs j))]
  exact h b j hj
theorem kr_X10_layStates_l32 {m : dc_M} {m0 : dc_M} {x1 : Int32} {x2 : Int32} {u : ((Int32 × dc_M) ⊕ (Int32 × dc_M))} (hD : kr m0 m) (h : d_X10_layStates_l32 82 x1 x2 m = some u) : (∀ s', u = .inl s' → kr m0 (s'.2)) ∧ (∀ e, u = .inr e → kr m0 (e.2)) := by
  unfold d_X10_layStates_l32 at h
  refine dc_lp_inv (fun s => kr m0 (s.2)) (fun u => (∀ s', u = .inl s' → kr m0 (s'.2)) ∧ (∀ e, u = .inr e → kr m0 (e.2))) (fun s s' hI e1 => ?_) (fun s e' hI e1 => ?_) hD h
  · unfold d_X10_layStates_l32s d_X10_layStates_l32b at e1
    by_cases c1 : (Int32.toInt (s.2.1 82 3)) ≤ (Int32.toInt s.1)
    · rw [if_pos c1] at e1
      cases e1
    · rw [if_neg c1] at e1
      by_cases c2 : (Int32.toInt (d_X10_isReady 82 s.1 ((dc_wi s.2 (82 + 18) (Int32.toNatClampNeg (((16 : Int32) * x1) + s.1)) (-4 : Int32)).1 (82 + 17) (Int32.toNatClampNeg x1)) (dc_wi s.2 (82 + 18) (Int32.toNatClampNeg (((16 : Int32) * x1) + s.1)) (-4 : Int32)))) = 0
      · rw [if_pos c2] at e1
        cases e1
        exact (kr_wi hI (by unfold krc; omega))
      · rw [if_neg c2] at e1
        by_cases c3 : (Int32.toInt (d_X10_isUnsafe 82 s.1 ((dc_wi s.2 (82 + 18) (Int32.toNatClampNeg (((16 : Int32) * x1) + s.1)) (-4 : Int32)).1 (82 + 17) (Int32.toNatClampNeg x1)) (dc_wi s.2 (82 + 18) (Int32.toNatClampNeg (((16 : Int32) * x1) + s.1)) (-4 : Int32)))) = 0
        · rw [if_pos c3] at e1
          cases hq1 : (d_X10_stateOf 82 (d_X10_after 82 s.1 ((dc_wi s.2 (82 + 18) (Int32.toNatClampNeg (((16 : Int32) * x1) + s.1)) (-4 : Int32)).1 (82 + 17) (Int32.toNatClampNeg x1)) (dc_wi s.2 (82 + 18) (Int32.toNatClampNeg (((16 : Int32) * x1) + s.1)) (-4 : Int32))) (dc_wi s.2 (82 + 18) (Int32.toNatClampNeg (((16 : Int32) * x1) + s.1)) (-4 : Int32))) with
          | none => rw [hq1] at e1; cases e1
          | some q1 =>
            rw [hq1, Option.bind_some] at e1
            by_cases c4 : ¬ (Int32.toInt q1) = 200
            · rw [if_pos c4] at e1
              by_cases c5 : ¬ (Int32.toInt q1) = (Int32.toInt ((dc_wi s.2 (82 + 18) (Int32.toNatClampNeg (((16 : Int32) * x1) + s.1)) (-4 : Int32)).1 82 32))
              · rw [if_pos c5] at e1
                cases e1
                exact (kr_wi (kr_wi hI (by unfold krc; omega)) (by unfold krc; omega))
              · rw [if_neg c5] at e1
                cases e1
                exact (kr_wi (kr_wi (kr_wi (kr_wi hI (by unfold krc; omega)) (by unfold krc; omega)) (by unfold krc; omega)) (by unfold krc; omega))
            · rw [if_neg c4] at e1
              cases e1
        · rw [if_neg c3] at e1
          cases e1
  · unfold d_X10_layStates_l32s d_X10_layStates_l32b at e1
    by_cases c1 : (Int32.toInt (s.2.1 82 3)) ≤ (Int32.toInt s.1)
    · rw [if_pos c1] at e1
      cases e1
      exact ⟨fun _ q => (by cases q; exact hI), fun _ q => (by cases q)⟩
    · rw [if_neg c1] at e1
      by_cases c2 : (Int32.toInt (d_X10_isReady 82 s.1 ((dc_wi s.2 (82 + 18) (Int32.toNatClampNeg (((16 : Int32) * x1) + s.1)) (-4 : Int32)).1 (82 + 17) (Int32.toNatClampNeg x1)) (dc_wi s.2 (82 + 18) (Int32.toNatClampNeg (((16 : Int32) * x1) + s.1)) (-4 : Int32)))) = 0
      · rw [if_pos c2] at e1
        cases e1
      · rw [if_neg c2] at e1
        by_cases c3 : (Int32.toInt (d_X10_isUnsafe 82 s.1 ((dc_wi s.2 (82 + 18) (Int32.toNatClampNeg (((16 : Int32) * x1) + s.1)) (-4 : Int32)).1 (82 + 17) (Int32.toNatClampNeg x1)) (dc_wi s.2 (82 + 18) (Int32.toNatClampNeg (((16 : Int32) * x1) + s.1)) (-4 : Int32)))) = 0
        · rw [if_pos c3] at e1
          cases hq1 : (d_X10_stateOf 82 (d_X10_after 82 s.1 ((dc_wi s.2 (82 + 18) (Int32.toNatClampNeg (((16 : Int32) * x1) + s.1)) (-4 : Int32)).1 (82 + 17) (Int32.toNatClampNeg x1)) (dc_wi s.2 (82 + 18) (Int32.toNatClampNeg (((16 : Int32) * x1) + s.1)) (-4 : Int32))) (dc_wi s.2 (82 + 18) (Int32.toNatClampNeg (((16 : Int32) * x1) + s.1)) (-4 : Int32))) with
          | none => rw [hq1] at e1; cases e1
          | some q1 =>
            rw [hq1, Option.bind_some] at e1
            by_cases c4 : ¬ (Int32.toInt q1) = 200
            · rw [if_pos c4] at e1
              by_cases c5 : ¬ (Int32.toInt q1) = (Int32.toInt ((dc_wi s.2 (82 + 18) (Int32.toNatClampNeg (((16 : Int32) * x1) + s.1)) (-4 : Int32)).1 82 32))
              · rw [if_pos c5] at e1
                cases e1
              · rw [if_neg c5] at e1
                cases e1
            · rw [if_neg c4] at e1
              cases e1
              exact ⟨fun _ q => (by cases q), fun _ q => (by cases q; exact (kr_wi (kr_wi hI (by unfold krc; omega)) (by unfold krc; omega)))⟩
        · rw [if_neg c3] at e1
          cases e1
          exact ⟨fun _ q => (by cases q), fun _ q => (by cases q; exact (kr_wi (kr_wi hI (by unfold krc; omega)) (by unfold krc; omega)))⟩
theorem kr_X10_layStates_l22 {m : dc_M} {m0 : dc_M} {x1 : Int32} {e : (Int32 × dc_M)} (hD : kr m0 m) (h : d_X10_layStates_l22 82 x1 m = some e) : kr m0 (e.2) := by
  unfold d_X10_layStates_l22 at h
  refine dc_lp_inv (fun s => kr m0 (s.2)) (fun e => kr m0 (e.2)) (fun s s' hI e1 => ?_) (fun s e' hI e1 => ?_) hD h
  · unfold d_X10_layStates_l22s d_X10_layStates_l22b at e1
    by_cases c1 : (Int32.toInt (s.2.1 82 32)) ≤ (Int32.toInt s.1)
    · rw [if_pos c1] at e1
      cases e1
    · rw [if_neg c1] at e1
      exact (kr_X10_layStates_l32  hI e1).1 _ rfl
  · unfold d_X10_layStates_l22s d_X10_layStates_l22b at e1
    by_cases c1 : (Int32.toInt (s.2.1 82 32)) ≤ (Int32.toInt s.1)
    · rw [if_pos c1] at e1
      cases e1
      exact hI
    · rw [if_neg c1] at e1
      exact (kr_X10_layStates_l32  hI e1).2 _ rfl
theorem kr_X10_layStates {m : dc_M} {m0 : dc_M}  {e : (Int32 × dc_M)} (hD : kr m0 m) (h : d_X10_layStates 82 m = some e) : kr m0 (e.2) := by
  unfold d_X10_layStates at h
  exact kr_X10_layStates_l22  (kr_wi (kr_wi (kr_wi hD (by unfold krc; omega)) (by unfold krc; omega)) (by unfold krc; omega)) h
theorem kr_X10_states {m : dc_M} {m0 : dc_M}  {e : (Int32 × dc_M)} (hD : kr m0 m) (h : d_X10_states 82 m = some e) : kr m0 (e.2) := by
  unfold d_X10_states at h
  cases hq1 : (d_X10_layStates 82 m) with
  | none => rw [hq1] at h; cases h
  | some q1 =>
    rw [hq1, Option.bind_some] at h
    have dq1 := kr_X10_layStates hD hq1
    by_cases c1 : ¬ (Int32.toInt q1.1) = 1
    · rw [if_pos c1] at h
      cases h
      exact dq1
    · rw [if_neg c1] at h
      cases h
      exact dq1
theorem kr_X10_layLevels_b191 {m : dc_M} {m0 : dc_M} {x1 : Int32} {x4 : Int32} {x5 : Int32} {x6 : Int32} {x7 : Int32} {x9 : Int32} {s0 : Int32} {u : ((Int32 × Int32 × Int32 × dc_M) ⊕ ((Int32 × Int32 × Int32 × dc_M) ⊕ ((Int32 × Int32 × dc_M) ⊕ (Int32 × dc_M))))} (hD : kr m0 m) (h : d_X10_layLevels_b191 82 x1 x4 x5 x6 x7 x9 s0 m = some u) : (∀ s', u = .inl s' → kr m0 (s'.2.2.2)) ∧ (∀ s', u = Sum.inr (Sum.inl s') → kr m0 (s'.2.2.2)) ∧ (∀ s', u = Sum.inr (Sum.inr (Sum.inl s')) → kr m0 (s'.2.2)) ∧ (∀ e, u = Sum.inr (Sum.inr (Sum.inr e)) → kr m0 (e.2)) := by
  unfold d_X10_layLevels_b191 at h
  by_cases c1 : (Int32.toInt (m.1 (82 + 20) (Int32.toNatClampNeg x7))) = 0
  · rw [if_pos c1] at h
    cases h
    exact ⟨fun _ q => (by cases q; exact (kr_wi (kr_wi hD (by unfold krc; omega)) (by unfold krc; omega))), fun _ q => (by cases q), fun _ q => (by cases q), fun _ q => (by cases q)⟩
  · rw [if_neg c1] at h
    by_cases c2 : (Int32.toInt s0) = 0
    · rw [if_pos c2] at h
      cases h
      exact ⟨fun _ q => (by cases q; exact hD), fun _ q => (by cases q), fun _ q => (by cases q), fun _ q => (by cases q)⟩
    · rw [if_neg c2] at h
      by_cases c3 : ¬ (Int32.toInt (((m.1 (82 + 19) (Int32.toNatClampNeg x7)) >>> (x1 &&& 31)) &&& (1 : Int32))) = (Int32.toInt x9)
      · rw [if_pos c3] at h
        cases h
        exact ⟨fun _ q => (by cases q; exact hD), fun _ q => (by cases q), fun _ q => (by cases q), fun _ q => (by cases q)⟩
      · rw [if_neg c3] at h
        cases h
        exact ⟨fun _ q => (by cases q; exact hD), fun _ q => (by cases q), fun _ q => (by cases q), fun _ q => (by cases q)⟩
theorem kr_X10_layLevels_b157 {m : dc_M} {m0 : dc_M} {x1 : Int32} {x3 : Int32} {x4 : Int32} {x5 : Int32} {x6 : Int32} {x7 : Int32} {x8 : Int32} {s0 : Int32} {u : ((Int32 × Int32 × Int32 × dc_M) ⊕ ((Int32 × Int32 × Int32 × dc_M) ⊕ ((Int32 × Int32 × dc_M) ⊕ (Int32 × dc_M))))} (hD : kr m0 m) (h : d_X10_layLevels_b157 82 x1 x3 x4 x5 x6 x7 x8 s0 m = some u) : (∀ s', u = .inl s' → kr m0 (s'.2.2.2)) ∧ (∀ s', u = Sum.inr (Sum.inl s') → kr m0 (s'.2.2.2)) ∧ (∀ s', u = Sum.inr (Sum.inr (Sum.inl s')) → kr m0 (s'.2.2)) ∧ (∀ e, u = Sum.inr (Sum.inr (Sum.inr e)) → kr m0 (e.2)) := by
  unfold d_X10_layLevels_b157 at h
  by_cases c1 : (Int32.toInt x3) = 0
  · rw [if_pos c1] at h
    exact kr_X10_layLevels_b191  hD h
  · rw [if_neg c1] at h
    by_cases c2 : ¬ (Int32.toInt (m.1 (82 + 3) (Int32.toNatClampNeg x6))) = (Int32.toInt x1)
    · rw [if_pos c2] at h
      exact kr_X10_layLevels_b191  hD h
    · rw [if_neg c2] at h
      by_cases c3 : (Int32.toInt x8) = (Int32.toInt (m.1 (82 + 4) (Int32.toNatClampNeg x6)))
      · rw [if_pos c3] at h
        exact kr_X10_layLevels_b191  hD h
      · rw [if_neg c3] at h
        exact kr_X10_layLevels_b191  hD h
theorem kr_X10_layLevels_l80 {m : dc_M} {m0 : dc_M} {x1 : Int32} {x3 : Int32} {x4 : Int32} {x5 : Int32} {x6 : Int32} {u : ((Int32 × Int32 × Int32 × dc_M) ⊕ ((Int32 × Int32 × dc_M) ⊕ (Int32 × dc_M)))} (hD : kr m0 m) (h : d_X10_layLevels_l80 82 x1 x5 x3 x4 x6 m = some u) : (∀ s', u = .inl s' → kr m0 (s'.2.2.2)) ∧ (∀ s', u = Sum.inr (Sum.inl s') → kr m0 (s'.2.2)) ∧ (∀ e, u = Sum.inr (Sum.inr e) → kr m0 (e.2)) := by
  unfold d_X10_layLevels_l80 at h
  refine dc_lp_inv (fun s => kr m0 (s.2.2.2)) (fun u => (∀ s', u = .inl s' → kr m0 (s'.2.2.2)) ∧ (∀ s', u = Sum.inr (Sum.inl s') → kr m0 (s'.2.2)) ∧ (∀ e, u = Sum.inr (Sum.inr e) → kr m0 (e.2))) (fun s s' hI e1 => ?_) (fun s e' hI e1 => ?_) hD h
  · unfold d_X10_layLevels_l80s d_X10_layLevels_l80b at e1
    by_cases c1 : (Int32.toInt (s.2.2.2.1 82 3)) ≤ (Int32.toInt s.2.2.1)
    · rw [if_pos c1] at e1
      cases e1
    · rw [if_neg c1] at e1
      by_cases c2 : (Int32.toInt (s.2.2.2.1 (82 + 20) (Int32.toNatClampNeg x5))) = 0
      · rw [if_pos c2] at e1
        cases e1
      · rw [if_neg c2] at e1
        by_cases c3 : (Int32.toInt (s.2.2.2.1 (82 + 18) (Int32.toNatClampNeg (((16 : Int32) * x5) + s.2.2.1)))) = (-4)
        · rw [if_pos c3] at e1
          cases e1
          exact hI
        · rw [if_neg c3] at e1
          by_cases c4 : ¬ (Int32.toInt (s.2.2.2.1 (82 + 3) (Int32.toNatClampNeg s.2.2.1))) = (Int32.toInt x1)
          · rw [if_pos c4] at e1
            exact (kr_X10_layLevels_b157  hI e1).1 _ rfl
          · rw [if_neg c4] at e1
            exact (kr_X10_layLevels_b157  hI e1).1 _ rfl
  · unfold d_X10_layLevels_l80s d_X10_layLevels_l80b at e1
    by_cases c1 : (Int32.toInt (s.2.2.2.1 82 3)) ≤ (Int32.toInt s.2.2.1)
    · rw [if_pos c1] at e1
      cases e1
      exact ⟨fun _ q => (by cases q; exact hI), fun _ q => (by cases q), fun _ q => (by cases q)⟩
    · rw [if_neg c1] at e1
      by_cases c2 : (Int32.toInt (s.2.2.2.1 (82 + 20) (Int32.toNatClampNeg x5))) = 0
      · rw [if_pos c2] at e1
        cases e1
        exact ⟨fun _ q => (by cases q; exact hI), fun _ q => (by cases q), fun _ q => (by cases q)⟩
      · rw [if_neg c2] at e1
        by_cases c3 : (Int32.toInt (s.2.2.2.1 (82 + 18) (Int32.toNatClampNeg (((16 : Int32) * x5) + s.2.2.1)))) = (-4)
        · rw [if_pos c3] at e1
          cases e1
        · rw [if_neg c3] at e1
          by_cases c4 : ¬ (Int32.toInt (s.2.2.2.1 (82 + 3) (Int32.toNatClampNeg s.2.2.1))) = (Int32.toInt x1)
          · rw [if_pos c4] at e1
            exact ⟨fun _ q => (by cases q; exact (kr_X10_layLevels_b157  hI e1).2.1 _ rfl), fun _ q => (by cases q; exact (kr_X10_layLevels_b157  hI e1).2.2.1 _ rfl), fun _ q => (by cases q; exact (kr_X10_layLevels_b157  hI e1).2.2.2 _ rfl)⟩
          · rw [if_neg c4] at e1
            exact ⟨fun _ q => (by cases q; exact (kr_X10_layLevels_b157  hI e1).2.1 _ rfl), fun _ q => (by cases q; exact (kr_X10_layLevels_b157  hI e1).2.2.1 _ rfl), fun _ q => (by cases q; exact (kr_X10_layLevels_b157  hI e1).2.2.2 _ rfl)⟩
theorem kr_X10_layLevels_l68 {m : dc_M} {m0 : dc_M} {x1 : Int32} {x3 : Int32} {x4 : Int32} {x5 : Int32} {u : ((Int32 × Int32 × dc_M) ⊕ (Int32 × dc_M))} (hD : kr m0 m) (h : d_X10_layLevels_l68 82 x1 x3 x4 x5 m = some u) : (∀ s', u = .inl s' → kr m0 (s'.2.2)) ∧ (∀ e, u = .inr e → kr m0 (e.2)) := by
  unfold d_X10_layLevels_l68 at h
  refine dc_lp_inv (fun s => kr m0 (s.2.2.2)) (fun u => (∀ s', u = .inl s' → kr m0 (s'.2.2)) ∧ (∀ e, u = .inr e → kr m0 (e.2))) (fun s s' hI e1 => ?_) (fun s e' hI e1 => ?_) hD h
  · unfold d_X10_layLevels_l68s d_X10_layLevels_l68b at e1
    by_cases c1 : (Int32.toInt (s.2.2.2.1 82 32)) ≤ (Int32.toInt s.2.2.1)
    · rw [if_pos c1] at e1
      cases e1
    · rw [if_neg c1] at e1
      exact (kr_X10_layLevels_l80  hI e1).1 _ rfl
  · unfold d_X10_layLevels_l68s d_X10_layLevels_l68b at e1
    by_cases c1 : (Int32.toInt (s.2.2.2.1 82 32)) ≤ (Int32.toInt s.2.2.1)
    · rw [if_pos c1] at e1
      cases e1
      exact ⟨fun _ q => (by cases q; exact hI), fun _ q => (by cases q)⟩
    · rw [if_neg c1] at e1
      exact ⟨fun _ q => (by cases q; exact (kr_X10_layLevels_l80  hI e1).2.1 _ rfl), fun _ q => (by cases q; exact (kr_X10_layLevels_l80  hI e1).2.2 _ rfl)⟩
theorem kr_X10_layLevels_l57 {m : dc_M} {m0 : dc_M} {x1 : Int32} {x3 : Int32} {x4 : Int32} {e : (Int32 × dc_M)} (hD : kr m0 m) (h : d_X10_layLevels_l57 82 x1 x3 x4 m = some e) : kr m0 (e.2) := by
  unfold d_X10_layLevels_l57 at h
  refine dc_lp_inv (fun s => kr m0 (s.2.2)) (fun e => kr m0 (e.2)) (fun s s' hI e1 => ?_) (fun s e' hI e1 => ?_) hD h
  · unfold d_X10_layLevels_l57s d_X10_layLevels_l57b at e1
    by_cases c1 : (Int32.toInt s.2.1) = 0
    · rw [if_pos c1] at e1
      cases e1
    · rw [if_neg c1] at e1
      exact (kr_X10_layLevels_l68  hI e1).1 _ rfl
  · unfold d_X10_layLevels_l57s d_X10_layLevels_l57b at e1
    by_cases c1 : (Int32.toInt s.2.1) = 0
    · rw [if_pos c1] at e1
      cases e1
      exact hI
    · rw [if_neg c1] at e1
      exact (kr_X10_layLevels_l68  hI e1).2 _ rfl
theorem kr_X10_layLevels_b23 {m : dc_M} {m0 : dc_M} {x1 : Int32} {x2 : Int32} {e : (Int32 × dc_M)} (hD : kr m0 m) (h : d_X10_layLevels_b23 82 x1 x2 m = some e) : kr m0 (e.2) := by
  unfold d_X10_layLevels_b23 at h
  exact kr_X10_layLevels_l57  (kr_wi (kr_wi hD (by unfold krc; omega)) (by unfold krc; omega)) h
theorem kr_X10_layLevels_l2 {m : dc_M} {m0 : dc_M} {x1 : Int32} {x2 : Int32} {x3 : Int32} {e : (Int32 × dc_M)} (hD : kr m0 m) (h : d_X10_layLevels_l2 82 x1 x2 x3 m = some e) : kr m0 (e.2) := by
  unfold d_X10_layLevels_l2 at h
  refine dc_lp_inv (fun s => kr m0 (s.2)) (fun e => kr m0 (e.2)) (fun s s' hI e1 => ?_) (fun s e' hI e1 => ?_) hD h
  · unfold d_X10_layLevels_l2s d_X10_layLevels_l2b at e1
    by_cases c1 : (Int32.toInt (s.2.1 82 32)) ≤ (Int32.toInt s.1)
    · rw [if_pos c1] at e1
      cases hz : d_X10_layLevels_b23 82 x1 x2 s.2 with
      | none => rw [hz] at e1; cases e1
      | some z =>
        rw [hz] at e1
        cases e1
    · rw [if_neg c1] at e1
      cases e1
      exact (kr_wi hI (by unfold krc; omega))
  · unfold d_X10_layLevels_l2s d_X10_layLevels_l2b at e1
    by_cases c1 : (Int32.toInt (s.2.1 82 32)) ≤ (Int32.toInt s.1)
    · rw [if_pos c1] at e1
      cases hz : d_X10_layLevels_b23 82 x1 x2 s.2 with
      | none => rw [hz] at e1; cases e1
      | some z =>
        rw [hz] at e1
        cases e1
        exact kr_X10_layLevels_b23  hI hz
    · rw [if_neg c1] at e1
      cases e1
theorem kr_X10_layLevels {m : dc_M} {m0 : dc_M} {x1 : Int32} {x2 : Int32} {e : (Int32 × dc_M)} (hD : kr m0 m) (h : d_X10_layLevels 82 x1 x2 m = some e) : kr m0 (e.2) := by
  unfold d_X10_layLevels at h
  exact kr_X10_layLevels_l2  hD h
theorem kr_X10_layRight_l42 {m : dc_M} {m0 : dc_M} {x1 : Int32} {e : (Int32 × dc_M)} (hD : kr m0 m) (h : d_X10_layRight_l42 82 x1 m = some e) : kr m0 (e.2) := by
  unfold d_X10_layRight_l42 at h
  refine dc_lp_inv (fun s => kr m0 (s.2)) (fun e => kr m0 (e.2)) (fun s s' hI e1 => ?_) (fun s e' hI e1 => ?_) hD h
  · unfold d_X10_layRight_l42s d_X10_layRight_l42b at e1
    by_cases c1 : (Int32.toInt (s.2.1 82 0)) ≤ (Int32.toInt s.1)
    · rw [if_pos c1] at e1
      cases e1
    · rw [if_neg c1] at e1
      by_cases c2 : (Int32.toInt (s.2.1 82 37)) = 0
      · rw [if_pos c2] at e1
        cases e1
      · rw [if_neg c2] at e1
        cases hq1 : (d_X10_layLevels 82 s.1 (0 : Int32) s.2) with
        | none => rw [hq1] at e1; cases e1
        | some q1 =>
          rw [hq1, Option.bind_some] at e1
          have dq1 := kr_X10_layLevels hI hq1
          by_cases c3 : ¬ (Int32.toInt q1.1) = 0
          · rw [if_pos c3] at e1
            cases e1
            exact (kr_wi dq1 (by unfold krc; omega))
          · rw [if_neg c3] at e1
            cases hq2 : (d_X10_layLevels 82 s.1 (1 : Int32) q1.2) with
            | none => rw [hq2] at e1; cases e1
            | some q2 =>
              rw [hq2, Option.bind_some] at e1
              have dq2 := kr_X10_layLevels dq1 hq2
              by_cases c4 : (Int32.toInt q2.1) = 0
              · rw [if_pos c4] at e1
                cases e1
                exact (kr_wi dq2 (by unfold krc; omega))
              · rw [if_neg c4] at e1
                cases e1
                exact (kr_wi dq2 (by unfold krc; omega))
  · unfold d_X10_layRight_l42s d_X10_layRight_l42b at e1
    by_cases c1 : (Int32.toInt (s.2.1 82 0)) ≤ (Int32.toInt s.1)
    · rw [if_pos c1] at e1
      cases e1
      exact hI
    · rw [if_neg c1] at e1
      by_cases c2 : (Int32.toInt (s.2.1 82 37)) = 0
      · rw [if_pos c2] at e1
        cases e1
        exact hI
      · rw [if_neg c2] at e1
        cases hq1 : (d_X10_layLevels 82 s.1 (0 : Int32) s.2) with
        | none => rw [hq1] at e1; cases e1
        | some q1 =>
          rw [hq1, Option.bind_some] at e1
          have dq1 := kr_X10_layLevels hI hq1
          by_cases c3 : ¬ (Int32.toInt q1.1) = 0
          · rw [if_pos c3] at e1
            cases e1
          · rw [if_neg c3] at e1
            cases hq2 : (d_X10_layLevels 82 s.1 (1 : Int32) q1.2) with
            | none => rw [hq2] at e1; cases e1
            | some q2 =>
              rw [hq2, Option.bind_some] at e1
              have dq2 := kr_X10_layLevels dq1 hq2
              by_cases c4 : (Int32.toInt q2.1) = 0
              · rw [if_pos c4] at e1
                cases e1
              · rw [if_neg c4] at e1
                cases e1
theorem kr_X10_layRight_l19 {m : dc_M} {m0 : dc_M} {x1 : Int32} {e : (Int32 × dc_M)} (hD : kr m0 m) (h : d_X10_layRight_l19 82 x1 m = some e) : kr m0 (e.2) := by
  unfold d_X10_layRight_l19 at h
  refine dc_lp_inv (fun s => kr m0 (s.2)) (fun e => kr m0 (e.2)) (fun s s' hI e1 => ?_) (fun s e' hI e1 => ?_) hD h
  · unfold d_X10_layRight_l19s d_X10_layRight_l19b at e1
    by_cases c1 : (Int32.toInt (s.2.1 82 32)) ≤ (Int32.toInt s.1)
    · rw [if_pos c1] at e1
      cases hz : d_X10_layRight_l42 82 (0 : Int32) s.2 with
      | none => rw [hz] at e1; cases e1
      | some z =>
        rw [hz] at e1
        cases e1
    · rw [if_neg c1] at e1
      cases e1
      exact (kr_wi hI (by unfold krc; omega))
  · unfold d_X10_layRight_l19s d_X10_layRight_l19b at e1
    by_cases c1 : (Int32.toInt (s.2.1 82 32)) ≤ (Int32.toInt s.1)
    · rw [if_pos c1] at e1
      cases hz : d_X10_layRight_l42 82 (0 : Int32) s.2 with
      | none => rw [hz] at e1; cases e1
      | some z =>
        rw [hz] at e1
        cases e1
        exact kr_X10_layRight_l42  hI hz
    · rw [if_neg c1] at e1
      cases e1
theorem kr_X10_layRight {m : dc_M} {m0 : dc_M}  {e : (Int32 × dc_M)} (hD : kr m0 m) (h : d_X10_layRight 82 m = some e) : kr m0 (e.2) := by
  unfold d_X10_layRight at h
  cases hq1 : (d_X10_layStates 82 m) with
  | none => rw [hq1] at h; cases h
  | some q1 =>
    rw [hq1, Option.bind_some] at h
    have dq1 := kr_X10_layStates hD hq1
    by_cases c1 : ¬ (Int32.toInt q1.1) = 1
    · rw [if_pos c1] at h
      exact kr_X10_layRight_l19  (kr_wi dq1 (by unfold krc; omega)) h
    · rw [if_neg c1] at h
      exact kr_X10_layRight_l19  (kr_wi dq1 (by unfold krc; omega)) h
theorem kr_X10_right {m : dc_M} {m0 : dc_M}  {e : (Int32 × dc_M)} (hD : kr m0 m) (h : d_X10_right 82 m = some e) : kr m0 (e.2) := by
  unfold d_X10_right at h
  cases hq1 : (d_X10_layRight 82 m) with
  | none => rw [hq1] at h; cases h
  | some q1 =>
    rw [hq1, Option.bind_some] at h
    have dq1 := kr_X10_layRight hD hq1
    by_cases c1 : (Int32.toInt q1.1) = 0
    · rw [if_pos c1] at h
      cases h
      exact dq1
    · rw [if_neg c1] at h
      cases h
      exact dq1
theorem kr_X10_of_b86 {m : dc_M} {m0 : dc_M} {x1 : Int32} {x2 : Int32} {e : (Int32 × dc_M)} (hD : kr m0 m) (h : d_X10_of_b86 82 x1 x2 m = some e) : kr m0 (e.2) := by
  unfold d_X10_of_b86 at h
  by_cases c1 : ¬ (Int32.toInt x2) = 0
  · rw [if_pos c1] at h
    by_cases c2 : ¬ (Int32.toInt x2) = 1
    · rw [if_pos c2] at h
      by_cases c3 : ¬ (Int32.toInt x2) = 2
      · rw [if_pos c3] at h
        by_cases c4 : ¬ (Int32.toInt x2) = 3
        · rw [if_pos c4] at h
          by_cases c5 : ¬ (Int32.toInt x2) = 4
          · rw [if_pos c5] at h
            cases h
            exact hD
          · rw [if_neg c5] at h
            cases hq1 : (d_X10_aims 82 x1 m) with
            | none => rw [hq1] at h; cases h
            | some q1 =>
              rw [hq1, Option.bind_some] at h
              cases h
              exact hD
        · rw [if_neg c4] at h
          cases hq2 : (d_X10_excited 82 x1 m) with
          | none => rw [hq2] at h; cases h
          | some q2 =>
            rw [hq2, Option.bind_some] at h
            cases h
            exact hD
      · rw [if_neg c3] at h
        cases h
        exact hD
    · rw [if_neg c2] at h
      cases hq3 : (d_X10_readyIn 82 x1 m) with
      | none => rw [hq3] at h; cases h
      | some q3 =>
        rw [hq3, Option.bind_some] at h
        cases h
        exact hD
  · rw [if_neg c1] at h
    cases h
    exact hD
theorem kr_X10_of_b62 {m : dc_M} {m0 : dc_M} {x1 : Int32} {x2 : Int32} {e : (Int32 × dc_M)} (hD : kr m0 m) (h : d_X10_of_b62 82 x1 x2 m = some e) : kr m0 (e.2) := by
  unfold d_X10_of_b62 at h
  by_cases c1 : (Int32.toInt (d_X10_in (Int32.toInt64 x2) (2 : Int64) (4 : Int64) m)) = 0
  · rw [if_pos c1] at h
    exact kr_X10_of_b86  hD h
  · rw [if_neg c1] at h
    by_cases c2 : ¬ (Int32.toInt (m.1 82 37)) = 0
    · rw [if_pos c2] at h
      exact kr_X10_of_b86  hD h
    · rw [if_neg c2] at h
      cases h
      exact hD
theorem kr_X10_of {m : dc_M} {m0 : dc_M} {x1 : Int32} {x2 : Int32} {e : (Int32 × dc_M)} (hD : kr m0 m) (h : d_X10_of 82 x1 x2 m = some e) : kr m0 (e.2) := by
  unfold d_X10_of at h
  cases hq1 : (d_X10_layRight 82 m) with
  | none => rw [hq1] at h; cases h
  | some q1 =>
    rw [hq1, Option.bind_some] at h
    have dq1 := kr_X10_layRight hD hq1
    by_cases c1 : ¬ (Int32.toInt (q1.2.1 82 33)) = 1
    · rw [if_pos c1] at h
      cases h
      exact dq1
    · rw [if_neg c1] at h
      by_cases c2 : (Int32.toInt (d_X10_in (Int32.toInt64 x1) (0 : Int64) (Int32.toInt64 ((q1.2.1 82 32) - (1 : Int32))) q1.2)) = 0
      · rw [if_pos c2] at h
        cases h
        exact dq1
      · rw [if_neg c2] at h
        by_cases c3 : ¬ (Int32.toInt (d_X10_in (Int32.toInt64 x2) (0 : Int64) (4 : Int64) q1.2)) = 0
        · rw [if_pos c3] at h
          exact kr_X10_of_b62  dq1 h
        · rw [if_neg c3] at h
          by_cases c4 : ¬ (Int32.toInt (d_X10_in (Int32.toInt64 x2) (10 : Int64) (Int32.toInt64 ((9 : Int32) + (q1.2.1 82 3))) q1.2)) = 0
          · rw [if_pos c4] at h
            exact kr_X10_of_b62  dq1 h
          · rw [if_neg c4] at h
            cases h
            exact dq1
theorem kr_X10_layQuarrels_b104 {m : dc_M} {m0 : dc_M} {x1 : Int32} {x2 : Int32} {s0 : Int32} {u : ((Int32 × dc_M) ⊕ ((Int32 × dc_M) ⊕ dc_M))} (hD : kr m0 m) (h : d_X10_layQuarrels_b104 82 x1 x2 s0 82 m = some u) : (∀ s', u = .inl s' → kr m0 (s'.2)) ∧ (∀ s', u = Sum.inr (Sum.inl s') → kr m0 (s'.2)) ∧ (∀ e, u = Sum.inr (Sum.inr e) → kr m0 e) := by
  unfold d_X10_layQuarrels_b104 at h
  by_cases c1 : ¬ (Int32.toInt ((dc_wi m 82 41 s0).1 82 40)) = 0
  · rw [if_pos c1] at h
    cases h
    exact ⟨fun _ q => (by cases q; exact (kr_wi (kr_wi (kr_wi hD (by unfold krc; omega)) (by unfold krc; omega)) (by unfold krc; omega))), fun _ q => (by cases q), fun _ q => (by cases q)⟩
  · rw [if_neg c1] at h
    cases h
    exact ⟨fun _ q => (by cases q; exact (kr_wi (kr_wi (kr_wi hD (by unfold krc; omega)) (by unfold krc; omega)) (by unfold krc; omega))), fun _ q => (by cases q), fun _ q => (by cases q)⟩
theorem kr_X10_layQuarrels_l36 {m : dc_M} {m0 : dc_M} {x1 : Int32} {x2 : Int32} {u : ((Int32 × dc_M) ⊕ dc_M)} (hD : kr m0 m) (h : d_X10_layQuarrels_l36 82 x1 x2 m = some u) : (∀ s', u = .inl s' → kr m0 (s'.2)) ∧ (∀ e, u = .inr e → kr m0 e) := by
  unfold d_X10_layQuarrels_l36 at h
  refine dc_lp_inv (fun s => kr m0 (s.2)) (fun u => (∀ s', u = .inl s' → kr m0 (s'.2)) ∧ (∀ e, u = .inr e → kr m0 e)) (fun s s' hI e1 => ?_) (fun s e' hI e1 => ?_) hD h
  · unfold d_X10_layQuarrels_l36s d_X10_layQuarrels_l36b at e1
    by_cases c1 : (Int32.toInt (s.2.1 82 32)) ≤ (Int32.toInt s.1)
    · rw [if_pos c1] at e1
      cases e1
    · rw [if_neg c1] at e1
      by_cases c2 : ¬ (Int32.toInt (s.2.1 (82 + 19) (Int32.toNatClampNeg x1))) = (Int32.toInt (s.2.1 (82 + 19) (Int32.toNatClampNeg s.1)))
      · rw [if_pos c2] at e1
        cases e1
        exact hI
      · rw [if_neg c2] at e1
        cases hq1 : (d_X10_aims 82 x1 (dc_wi s.2 82 39 ((s.2.1 82 39) + (1 : Int32)))) with
        | none => rw [hq1] at e1; cases e1
        | some q1 =>
          rw [hq1, Option.bind_some] at e1
          cases hq2 : (d_X10_aims 82 s.1 (dc_wi s.2 82 39 ((s.2.1 82 39) + (1 : Int32)))) with
          | none => rw [hq2] at e1; cases e1
          | some q2 =>
            rw [hq2, Option.bind_some] at e1
            cases hq3 : (d_X10_ownWires 82 (dc_wi s.2 82 39 ((s.2.1 82 39) + (1 : Int32)))) with
            | none => rw [hq3] at e1; cases e1
            | some q3 =>
              rw [hq3, Option.bind_some] at e1
              by_cases c3 : (Int32.toInt ((q1 ^^^ q2) &&& q3)) = 0
              · rw [if_pos c3] at e1
                cases e1
                exact (kr_wi hI (by unfold krc; omega))
              · rw [if_neg c3] at e1
                by_cases c4 : ¬ (Int32.toInt ((dc_wi s.2 82 39 ((s.2.1 82 39) + (1 : Int32))).1 82 40)) = 0
                · rw [if_pos c4] at e1
                  exact (kr_X10_layQuarrels_b104  (kr_wi hI (by unfold krc; omega)) e1).1 _ rfl
                · rw [if_neg c4] at e1
                  exact (kr_X10_layQuarrels_b104  (kr_wi hI (by unfold krc; omega)) e1).1 _ rfl
  · unfold d_X10_layQuarrels_l36s d_X10_layQuarrels_l36b at e1
    by_cases c1 : (Int32.toInt (s.2.1 82 32)) ≤ (Int32.toInt s.1)
    · rw [if_pos c1] at e1
      cases e1
      exact ⟨fun _ q => (by cases q; exact hI), fun _ q => (by cases q)⟩
    · rw [if_neg c1] at e1
      by_cases c2 : ¬ (Int32.toInt (s.2.1 (82 + 19) (Int32.toNatClampNeg x1))) = (Int32.toInt (s.2.1 (82 + 19) (Int32.toNatClampNeg s.1)))
      · rw [if_pos c2] at e1
        cases e1
      · rw [if_neg c2] at e1
        cases hq1 : (d_X10_aims 82 x1 (dc_wi s.2 82 39 ((s.2.1 82 39) + (1 : Int32)))) with
        | none => rw [hq1] at e1; cases e1
        | some q1 =>
          rw [hq1, Option.bind_some] at e1
          cases hq2 : (d_X10_aims 82 s.1 (dc_wi s.2 82 39 ((s.2.1 82 39) + (1 : Int32)))) with
          | none => rw [hq2] at e1; cases e1
          | some q2 =>
            rw [hq2, Option.bind_some] at e1
            cases hq3 : (d_X10_ownWires 82 (dc_wi s.2 82 39 ((s.2.1 82 39) + (1 : Int32)))) with
            | none => rw [hq3] at e1; cases e1
            | some q3 =>
              rw [hq3, Option.bind_some] at e1
              by_cases c3 : (Int32.toInt ((q1 ^^^ q2) &&& q3)) = 0
              · rw [if_pos c3] at e1
                cases e1
              · rw [if_neg c3] at e1
                by_cases c4 : ¬ (Int32.toInt ((dc_wi s.2 82 39 ((s.2.1 82 39) + (1 : Int32))).1 82 40)) = 0
                · rw [if_pos c4] at e1
                  exact ⟨fun _ q => (by cases q; exact (kr_X10_layQuarrels_b104  (kr_wi hI (by unfold krc; omega)) e1).2.1 _ rfl), fun _ q => (by cases q; exact (kr_X10_layQuarrels_b104  (kr_wi hI (by unfold krc; omega)) e1).2.2 _ rfl)⟩
                · rw [if_neg c4] at e1
                  exact ⟨fun _ q => (by cases q; exact (kr_X10_layQuarrels_b104  (kr_wi hI (by unfold krc; omega)) e1).2.1 _ rfl), fun _ q => (by cases q; exact (kr_X10_layQuarrels_b104  (kr_wi hI (by unfold krc; omega)) e1).2.2 _ rfl)⟩
theorem kr_X10_layQuarrels_l24 {m : dc_M} {m0 : dc_M} {x1 : Int32} {e : dc_M} (hD : kr m0 m) (h : d_X10_layQuarrels_l24 82 x1 m = some e) : kr m0 e := by
  unfold d_X10_layQuarrels_l24 at h
  refine dc_lp_inv (fun s => kr m0 (s.2)) (fun e => kr m0 e) (fun s s' hI e1 => ?_) (fun s e' hI e1 => ?_) hD h
  · unfold d_X10_layQuarrels_l24s d_X10_layQuarrels_l24b at e1
    by_cases c1 : (Int32.toInt (s.2.1 82 32)) ≤ (Int32.toInt s.1)
    · rw [if_pos c1] at e1
      cases e1
    · rw [if_neg c1] at e1
      exact (kr_X10_layQuarrels_l36  hI e1).1 _ rfl
  · unfold d_X10_layQuarrels_l24s d_X10_layQuarrels_l24b at e1
    by_cases c1 : (Int32.toInt (s.2.1 82 32)) ≤ (Int32.toInt s.1)
    · rw [if_pos c1] at e1
      cases e1
      exact hI
    · rw [if_neg c1] at e1
      exact (kr_X10_layQuarrels_l36  hI e1).2 _ rfl
theorem kr_X10_layQuarrels {m : dc_M} {m0 : dc_M}  {e : dc_M} (hD : kr m0 m) (h : d_X10_layQuarrels 82 m = some e) : kr m0 e := by
  unfold d_X10_layQuarrels at h
  exact kr_X10_layQuarrels_l24  (kr_wi (kr_wi (kr_wi (kr_wi hD (by unfold krc; omega)) (by unfold krc; omega)) (by unfold krc; omega)) (by unfold krc; omega)) h
theorem kr_X10_quarrels {m : dc_M} {m0 : dc_M} {x1 : Int32} {e : (Int32 × dc_M)} (hD : kr m0 m) (h : d_X10_quarrels 82 x1 m = some e) : kr m0 (e.2) := by
  unfold d_X10_quarrels at h
  by_cases c1 : ¬ (Int32.toInt (d_X10_in (Int32.toInt64 x1) (0 : Int64) (3 : Int64) m)) = 0
  · rw [if_pos c1] at h
    cases hq1 : (d_X10_layRight 82 m) with
    | none => rw [hq1] at h; cases h
    | some q1 =>
      rw [hq1, Option.bind_some] at h
      have dq1 := kr_X10_layRight hD hq1
      by_cases c2 : ¬ (Int32.toInt q1.1) = 0
      · rw [if_pos c2] at h
        cases hq2 : (d_X10_layQuarrels 82 q1.2) with
        | none => rw [hq2] at h; cases h
        | some q2 =>
          rw [hq2, Option.bind_some] at h
          have dq2 := kr_X10_layQuarrels dq1 hq2
          by_cases c3 : ¬ (Int32.toInt x1) = 0
          · rw [if_pos c3] at h
            by_cases c4 : ¬ (Int32.toInt x1) = 1
            · rw [if_pos c4] at h
              by_cases c5 : ¬ (Int32.toInt x1) = 2
              · rw [if_pos c5] at h
                cases h
                exact dq2
              · rw [if_neg c5] at h
                cases h
                exact dq2
            · rw [if_neg c4] at h
              cases h
              exact dq2
          · rw [if_neg c3] at h
            cases h
            exact dq2
      · rw [if_neg c2] at h
        cases h
        exact dq1
  · rw [if_neg c1] at h
    cases h
    exact hD
theorem kr_X10_layBacks_b185 {m : dc_M} {m0 : dc_M} {x1 : Int32} {x2 : Int32} {x3 : Int32} {x4 : Int32} {s0 : Int32} {u : ((Int32 × dc_M) ⊕ ((Int32 × dc_M) ⊕ ((Int32 × dc_M) ⊕ dc_M)))} (hD : kr m0 m) (h : d_X10_layBacks_b185 82 x1 x2 x3 x4 s0 82 m = some u) : (∀ s', u = .inl s' → kr m0 (s'.2)) ∧ (∀ s', u = Sum.inr (Sum.inl s') → kr m0 (s'.2)) ∧ (∀ s', u = Sum.inr (Sum.inr (Sum.inl s')) → kr m0 (s'.2)) ∧ (∀ e, u = Sum.inr (Sum.inr (Sum.inr e)) → kr m0 e) := by
  unfold d_X10_layBacks_b185 at h
  by_cases c1 : ¬ (Int32.toInt ((dc_wi m 82 45 s0).1 82 43)) = 0
  · rw [if_pos c1] at h
    cases h
    exact ⟨fun _ q => (by cases q; exact (kr_wi (kr_wi (kr_wi hD (by unfold krc; omega)) (by unfold krc; omega)) (by unfold krc; omega))), fun _ q => (by cases q), fun _ q => (by cases q), fun _ q => (by cases q)⟩
  · rw [if_neg c1] at h
    cases h
    exact ⟨fun _ q => (by cases q; exact (kr_wi (kr_wi (kr_wi hD (by unfold krc; omega)) (by unfold krc; omega)) (by unfold krc; omega))), fun _ q => (by cases q), fun _ q => (by cases q), fun _ q => (by cases q)⟩
theorem kr_X10_layBacks_b166 {m : dc_M} {m0 : dc_M} {x1 : Int32} {x2 : Int32} {x3 : Int32} {x4 : Int32} {s0 : Int32} {u : ((Int32 × dc_M) ⊕ ((Int32 × dc_M) ⊕ ((Int32 × dc_M) ⊕ dc_M)))} (hD : kr m0 m) (h : d_X10_layBacks_b166 82 x1 x2 x3 x4 s0 82 m = some u) : (∀ s', u = .inl s' → kr m0 (s'.2)) ∧ (∀ s', u = Sum.inr (Sum.inl s') → kr m0 (s'.2)) ∧ (∀ s', u = Sum.inr (Sum.inr (Sum.inl s')) → kr m0 (s'.2)) ∧ (∀ e, u = Sum.inr (Sum.inr (Sum.inr e)) → kr m0 e) := by
  unfold d_X10_layBacks_b166 at h
  by_cases c1 : ¬ (Int32.toInt ((dc_wi m 82 44 s0).1 82 43)) = 0
  · rw [if_pos c1] at h
    exact kr_X10_layBacks_b185  (kr_wi hD (by unfold krc; omega)) h
  · rw [if_neg c1] at h
    exact kr_X10_layBacks_b185  (kr_wi hD (by unfold krc; omega)) h
theorem kr_X10_layBacks_l82 {m : dc_M} {m0 : dc_M} {x1 : Int32} {x2 : Int32} {x3 : Int32} {x4 : Int32} {u : ((Int32 × dc_M) ⊕ ((Int32 × dc_M) ⊕ dc_M))} (hD : kr m0 m) (h : d_X10_layBacks_l82 82 x1 x2 x3 x4 m = some u) : (∀ s', u = .inl s' → kr m0 (s'.2)) ∧ (∀ s', u = Sum.inr (Sum.inl s') → kr m0 (s'.2)) ∧ (∀ e, u = Sum.inr (Sum.inr e) → kr m0 e) := by
  unfold d_X10_layBacks_l82 at h
  refine dc_lp_inv (fun s => kr m0 (s.2)) (fun u => (∀ s', u = .inl s' → kr m0 (s'.2)) ∧ (∀ s', u = Sum.inr (Sum.inl s') → kr m0 (s'.2)) ∧ (∀ e, u = Sum.inr (Sum.inr e) → kr m0 e)) (fun s s' hI e1 => ?_) (fun s e' hI e1 => ?_) hD h
  · unfold d_X10_layBacks_l82s d_X10_layBacks_l82b at e1
    by_cases c1 : (Int32.toInt (s.2.1 82 3)) ≤ (Int32.toInt s.1)
    · rw [if_pos c1] at e1
      cases e1
    · rw [if_neg c1] at e1
      by_cases c2 : (Int32.toInt x3) = 0
      · rw [if_pos c2] at e1
        cases e1
      · rw [if_neg c2] at e1
        by_cases c3 : (Int32.toInt (s.2.1 (82 + 18) (Int32.toNatClampNeg (((16 : Int32) * x1) + s.1)))) = (-4)
        · rw [if_pos c3] at e1
          cases e1
          exact hI
        · rw [if_neg c3] at e1
          by_cases c4 : (Int32.toInt (s.2.1 (82 + 3) (Int32.toNatClampNeg s.1))) = (Int32.toInt (s.2.1 (82 + 3) (Int32.toNatClampNeg x2)))
          · rw [if_pos c4] at e1
            cases e1
            exact hI
          · rw [if_neg c4] at e1
            cases hq1 : (d_X10_excited 82 (s.2.1 (82 + 18) (Int32.toNatClampNeg (((16 : Int32) * x1) + s.1))) s.2) with
            | none => rw [hq1] at e1; cases e1
            | some q1 =>
              rw [hq1, Option.bind_some] at e1
              by_cases c5 : ¬ (Int32.toInt ((q1 >>> ((s.2.1 (82 + 3) (Int32.toNatClampNeg x2)) &&& 31)) &&& (1 : Int32))) = 0
              · rw [if_pos c5] at e1
                cases e1
                exact hI
              · rw [if_neg c5] at e1
                by_cases c6 : ¬ (Int32.toInt (s.2.1 82 43)) = 0
                · rw [if_pos c6] at e1
                  exact (kr_X10_layBacks_b166  hI e1).1 _ rfl
                · rw [if_neg c6] at e1
                  exact (kr_X10_layBacks_b166  hI e1).1 _ rfl
  · unfold d_X10_layBacks_l82s d_X10_layBacks_l82b at e1
    by_cases c1 : (Int32.toInt (s.2.1 82 3)) ≤ (Int32.toInt s.1)
    · rw [if_pos c1] at e1
      cases e1
      exact ⟨fun _ q => (by cases q; exact hI), fun _ q => (by cases q), fun _ q => (by cases q)⟩
    · rw [if_neg c1] at e1
      by_cases c2 : (Int32.toInt x3) = 0
      · rw [if_pos c2] at e1
        cases e1
        exact ⟨fun _ q => (by cases q; exact hI), fun _ q => (by cases q), fun _ q => (by cases q)⟩
      · rw [if_neg c2] at e1
        by_cases c3 : (Int32.toInt (s.2.1 (82 + 18) (Int32.toNatClampNeg (((16 : Int32) * x1) + s.1)))) = (-4)
        · rw [if_pos c3] at e1
          cases e1
        · rw [if_neg c3] at e1
          by_cases c4 : (Int32.toInt (s.2.1 (82 + 3) (Int32.toNatClampNeg s.1))) = (Int32.toInt (s.2.1 (82 + 3) (Int32.toNatClampNeg x2)))
          · rw [if_pos c4] at e1
            cases e1
          · rw [if_neg c4] at e1
            cases hq1 : (d_X10_excited 82 (s.2.1 (82 + 18) (Int32.toNatClampNeg (((16 : Int32) * x1) + s.1))) s.2) with
            | none => rw [hq1] at e1; cases e1
            | some q1 =>
              rw [hq1, Option.bind_some] at e1
              by_cases c5 : ¬ (Int32.toInt ((q1 >>> ((s.2.1 (82 + 3) (Int32.toNatClampNeg x2)) &&& 31)) &&& (1 : Int32))) = 0
              · rw [if_pos c5] at e1
                cases e1
              · rw [if_neg c5] at e1
                by_cases c6 : ¬ (Int32.toInt (s.2.1 82 43)) = 0
                · rw [if_pos c6] at e1
                  exact ⟨fun _ q => (by cases q; exact (kr_X10_layBacks_b166  hI e1).2.1 _ rfl), fun _ q => (by cases q; exact (kr_X10_layBacks_b166  hI e1).2.2.1 _ rfl), fun _ q => (by cases q; exact (kr_X10_layBacks_b166  hI e1).2.2.2 _ rfl)⟩
                · rw [if_neg c6] at e1
                  exact ⟨fun _ q => (by cases q; exact (kr_X10_layBacks_b166  hI e1).2.1 _ rfl), fun _ q => (by cases q; exact (kr_X10_layBacks_b166  hI e1).2.2.1 _ rfl), fun _ q => (by cases q; exact (kr_X10_layBacks_b166  hI e1).2.2.2 _ rfl)⟩
theorem kr_X10_layBacks_l35 {m : dc_M} {m0 : dc_M} {x1 : Int32} {x2 : Int32} {u : ((Int32 × dc_M) ⊕ dc_M)} (hD : kr m0 m) (h : d_X10_layBacks_l35 82 x1 x2 m = some u) : (∀ s', u = .inl s' → kr m0 (s'.2)) ∧ (∀ e, u = .inr e → kr m0 e) := by
  unfold d_X10_layBacks_l35 at h
  refine dc_lp_inv (fun s => kr m0 (s.2)) (fun u => (∀ s', u = .inl s' → kr m0 (s'.2)) ∧ (∀ e, u = .inr e → kr m0 e)) (fun s s' hI e1 => ?_) (fun s e' hI e1 => ?_) hD h
  · unfold d_X10_layBacks_l35s d_X10_layBacks_l35b at e1
    by_cases c1 : (Int32.toInt (s.2.1 82 3)) ≤ (Int32.toInt s.1)
    · rw [if_pos c1] at e1
      cases e1
    · rw [if_neg c1] at e1
      by_cases c2 : (Int32.toInt (s.2.1 (82 + 18) (Int32.toNatClampNeg (((16 : Int32) * x1) + s.1)))) = (-4)
      · rw [if_pos c2] at e1
        exact (kr_X10_layBacks_l82  hI e1).1 _ rfl
      · rw [if_neg c2] at e1
        by_cases c3 : (Int32.toInt (s.2.1 (82 + 2) (Int32.toNatClampNeg (s.2.1 (82 + 3) (Int32.toNatClampNeg s.1))))) ≤ 0
        · rw [if_pos c3] at e1
          exact (kr_X10_layBacks_l82  hI e1).1 _ rfl
        · rw [if_neg c3] at e1
          exact (kr_X10_layBacks_l82  hI e1).1 _ rfl
  · unfold d_X10_layBacks_l35s d_X10_layBacks_l35b at e1
    by_cases c1 : (Int32.toInt (s.2.1 82 3)) ≤ (Int32.toInt s.1)
    · rw [if_pos c1] at e1
      cases e1
      exact ⟨fun _ q => (by cases q; exact hI), fun _ q => (by cases q)⟩
    · rw [if_neg c1] at e1
      by_cases c2 : (Int32.toInt (s.2.1 (82 + 18) (Int32.toNatClampNeg (((16 : Int32) * x1) + s.1)))) = (-4)
      · rw [if_pos c2] at e1
        exact ⟨fun _ q => (by cases q; exact (kr_X10_layBacks_l82  hI e1).2.1 _ rfl), fun _ q => (by cases q; exact (kr_X10_layBacks_l82  hI e1).2.2 _ rfl)⟩
      · rw [if_neg c2] at e1
        by_cases c3 : (Int32.toInt (s.2.1 (82 + 2) (Int32.toNatClampNeg (s.2.1 (82 + 3) (Int32.toNatClampNeg s.1))))) ≤ 0
        · rw [if_pos c3] at e1
          exact ⟨fun _ q => (by cases q; exact (kr_X10_layBacks_l82  hI e1).2.1 _ rfl), fun _ q => (by cases q; exact (kr_X10_layBacks_l82  hI e1).2.2 _ rfl)⟩
        · rw [if_neg c3] at e1
          exact ⟨fun _ q => (by cases q; exact (kr_X10_layBacks_l82  hI e1).2.1 _ rfl), fun _ q => (by cases q; exact (kr_X10_layBacks_l82  hI e1).2.2 _ rfl)⟩
theorem kr_X10_layBacks_l25 {m : dc_M} {m0 : dc_M} {x1 : Int32} {e : dc_M} (hD : kr m0 m) (h : d_X10_layBacks_l25 82 x1 m = some e) : kr m0 e := by
  unfold d_X10_layBacks_l25 at h
  refine dc_lp_inv (fun s => kr m0 (s.2)) (fun e => kr m0 e) (fun s s' hI e1 => ?_) (fun s e' hI e1 => ?_) hD h
  · unfold d_X10_layBacks_l25s d_X10_layBacks_l25b at e1
    by_cases c1 : (Int32.toInt (s.2.1 82 32)) ≤ (Int32.toInt s.1)
    · rw [if_pos c1] at e1
      cases e1
    · rw [if_neg c1] at e1
      exact (kr_X10_layBacks_l35  hI e1).1 _ rfl
  · unfold d_X10_layBacks_l25s d_X10_layBacks_l25b at e1
    by_cases c1 : (Int32.toInt (s.2.1 82 32)) ≤ (Int32.toInt s.1)
    · rw [if_pos c1] at e1
      cases e1
      exact hI
    · rw [if_neg c1] at e1
      exact (kr_X10_layBacks_l35  hI e1).2 _ rfl
theorem kr_X10_layBacks {m : dc_M} {m0 : dc_M}  {e : dc_M} (hD : kr m0 m) (h : d_X10_layBacks 82 m = some e) : kr m0 e := by
  unfold d_X10_layBacks at h
  exact kr_X10_layBacks_l25  (kr_wi (kr_wi (kr_wi (kr_wi hD (by unfold krc; omega)) (by unfold krc; omega)) (by unfold krc; omega)) (by unfold krc; omega)) h
theorem kr_X10_back {m : dc_M} {m0 : dc_M} {x1 : Int32} {e : (Int32 × dc_M)} (hD : kr m0 m) (h : d_X10_back 82 x1 m = some e) : kr m0 (e.2) := by
  unfold d_X10_back at h
  by_cases c1 : ¬ (Int32.toInt (d_X10_in (Int32.toInt64 x1) (0 : Int64) (3 : Int64) m)) = 0
  · rw [if_pos c1] at h
    cases hq1 : (d_X10_layRight 82 m) with
    | none => rw [hq1] at h; cases h
    | some q1 =>
      rw [hq1, Option.bind_some] at h
      have dq1 := kr_X10_layRight hD hq1
      by_cases c2 : ¬ (Int32.toInt q1.1) = 0
      · rw [if_pos c2] at h
        cases hq2 : (d_X10_layBacks 82 q1.2) with
        | none => rw [hq2] at h; cases h
        | some q2 =>
          rw [hq2, Option.bind_some] at h
          have dq2 := kr_X10_layBacks dq1 hq2
          by_cases c3 : ¬ (Int32.toInt x1) = 0
          · rw [if_pos c3] at h
            by_cases c4 : ¬ (Int32.toInt x1) = 1
            · rw [if_pos c4] at h
              by_cases c5 : ¬ (Int32.toInt x1) = 2
              · rw [if_pos c5] at h
                cases h
                exact dq2
              · rw [if_neg c5] at h
                cases h
                exact dq2
            · rw [if_neg c4] at h
              cases h
              exact dq2
          · rw [if_neg c3] at h
            cases h
            exact dq2
      · rw [if_neg c2] at h
        cases h
        exact dq1
  · rw [if_neg c1] at h
    cases h
    exact hD
theorem kr_X10_stuck_b268 {m : dc_M} {m0 : dc_M} {x1 : Int32} {x2 : Int32} {x5 : Int32} {x6 : Int32} {e : (Int32 × dc_M)} (hD : kr m0 m) (h : d_X10_stuck_b268 x1 x2 x5 x6 m = some e) : kr m0 (e.2) := by
  unfold d_X10_stuck_b268 at h
  by_cases c1 : ¬ (Int32.toInt x1) = 0
  · rw [if_pos c1] at h
    by_cases c2 : ¬ (Int32.toInt x1) = 1
    · rw [if_pos c2] at h
      cases h
      exact hD
    · rw [if_neg c2] at h
      cases h
      exact hD
  · rw [if_neg c1] at h
    cases h
    exact hD
theorem kr_X10_stuck_l240 {m : dc_M} {m0 : dc_M} {x1 : Int32} {x2 : Int32} {x3 : Int32} {x5 : Int32} {x6 : Int32} {x7 : Int32} {e : (Int32 × dc_M)} (hD : kr m0 m) (h : d_X10_stuck_l240 82 x1 x2 x3 x5 x6 x7 m = some e) : kr m0 (e.2) := by
  unfold d_X10_stuck_l240 at h
  refine dc_lp_inv (fun s => kr m0 m) (fun e => kr m0 (e.2)) (fun s s' hI e1 => ?_) (fun s e' hI e1 => ?_) hD h
  · exact hI
  · unfold d_X10_stuck_l240s d_X10_stuck_l240b at e1
    by_cases c1 : (Int32.toInt (m.1 82 3)) ≤ (Int32.toInt s.2)
    · rw [if_pos c1] at e1
      cases hz : d_X10_stuck_b268 x1 x2 x5 s.1 m with
      | none => rw [hz] at e1; cases e1
      | some z =>
        rw [hz] at e1
        cases e1
        exact kr_X10_stuck_b268  hI hz
    · rw [if_neg c1] at e1
      cases e1
theorem kr_X10_stuck_l202 {m : dc_M} {m0 : dc_M} {x1 : Int32} {x2 : Int32} {x3 : Int32} {x5 : Int32} {x6 : Int32} {x7 : Int32} {e : (Int32 × dc_M)} (hD : kr m0 m) (h : d_X10_stuck_l202 82 x1 x2 x3 x6 x5 x7 m = some e) : kr m0 (e.2) := by
  unfold d_X10_stuck_l202 at h
  refine dc_lp_inv (fun s => kr m0 m) (fun e => kr m0 (e.2)) (fun s s' hI e1 => ?_) (fun s e' hI e1 => ?_) hD h
  · exact hI
  · unfold d_X10_stuck_l202s d_X10_stuck_l202b at e1
    by_cases c1 : (Int32.toInt (m.1 82 32)) ≤ (Int32.toInt s.2)
    · rw [if_pos c1] at e1
      cases hz : d_X10_stuck_l240 82 x1 x2 x3 s.1 x6 (0 : Int32) m with
      | none => rw [hz] at e1; cases e1
      | some z =>
        rw [hz] at e1
        cases e1
        exact kr_X10_stuck_l240  hI hz
    · rw [if_neg c1] at e1
      by_cases c2 : (Int32.toInt (m.1 (82 + 20) (Int32.toNatClampNeg s.2))) = 0
      · rw [if_pos c2] at e1
        cases e1
      · rw [if_neg c2] at e1
        cases e1
theorem kr_X10_stuck_l116 {m : dc_M} {m0 : dc_M} {x1 : Int32} {x2 : Int32} {x3 : Int32} {x4 : Int32} {x5 : Int32} {x6 : Int32} {u : ((Int32 × Int32 × dc_M) ⊕ ((Int32 × dc_M) ⊕ (Int32 × dc_M)))} (hD : kr m0 m) (h : d_X10_stuck_l116 82 x1 x2 x3 x5 x4 x6 m = some u) : (∀ s', u = .inl s' → kr m0 (s'.2.2)) ∧ (∀ s', u = Sum.inr (Sum.inl s') → kr m0 (s'.2)) ∧ (∀ e, u = Sum.inr (Sum.inr e) → kr m0 (e.2)) := by
  unfold d_X10_stuck_l116 at h
  refine dc_lp_inv (fun s => kr m0 (s.2.2)) (fun u => (∀ s', u = .inl s' → kr m0 (s'.2.2)) ∧ (∀ s', u = Sum.inr (Sum.inl s') → kr m0 (s'.2)) ∧ (∀ e, u = Sum.inr (Sum.inr e) → kr m0 (e.2))) (fun s s' hI e1 => ?_) (fun s e' hI e1 => ?_) hD h
  · unfold d_X10_stuck_l116s d_X10_stuck_l116b at e1
    by_cases c1 : (Int32.toInt (s.2.2.1 82 3)) ≤ (Int32.toInt s.2.1)
    · rw [if_pos c1] at e1
      cases e1
    · rw [if_neg c1] at e1
      by_cases c2 : ¬ (Int32.toInt (s.2.2.1 (82 + 20) (Int32.toNatClampNeg x5))) = 0
      · rw [if_pos c2] at e1
        cases e1
      · rw [if_neg c2] at e1
        by_cases c3 : (Int32.toInt (s.2.2.1 (82 + 18) (Int32.toNatClampNeg (((16 : Int32) * x5) + s.2.1)))) = (-4)
        · rw [if_pos c3] at e1
          cases e1
          exact hI
        · rw [if_neg c3] at e1
          by_cases c4 : (Int32.toInt (s.2.2.1 (82 + 20) (Int32.toNatClampNeg (s.2.2.1 (82 + 18) (Int32.toNatClampNeg (((16 : Int32) * x5) + s.2.1)))))) = 0
          · rw [if_pos c4] at e1
            cases e1
            exact hI
          · rw [if_neg c4] at e1
            cases e1
            exact (kr_wi hI (by unfold krc; omega))
  · unfold d_X10_stuck_l116s d_X10_stuck_l116b at e1
    by_cases c1 : (Int32.toInt (s.2.2.1 82 3)) ≤ (Int32.toInt s.2.1)
    · rw [if_pos c1] at e1
      cases e1
      exact ⟨fun _ q => (by cases q; exact hI), fun _ q => (by cases q), fun _ q => (by cases q)⟩
    · rw [if_neg c1] at e1
      by_cases c2 : ¬ (Int32.toInt (s.2.2.1 (82 + 20) (Int32.toNatClampNeg x5))) = 0
      · rw [if_pos c2] at e1
        cases e1
        exact ⟨fun _ q => (by cases q; exact hI), fun _ q => (by cases q), fun _ q => (by cases q)⟩
      · rw [if_neg c2] at e1
        by_cases c3 : (Int32.toInt (s.2.2.1 (82 + 18) (Int32.toNatClampNeg (((16 : Int32) * x5) + s.2.1)))) = (-4)
        · rw [if_pos c3] at e1
          cases e1
        · rw [if_neg c3] at e1
          by_cases c4 : (Int32.toInt (s.2.2.1 (82 + 20) (Int32.toNatClampNeg (s.2.2.1 (82 + 18) (Int32.toNatClampNeg (((16 : Int32) * x5) + s.2.1)))))) = 0
          · rw [if_pos c4] at e1
            cases e1
          · rw [if_neg c4] at e1
            cases e1
theorem kr_X10_stuck_l104 {m : dc_M} {m0 : dc_M} {x1 : Int32} {x2 : Int32} {x3 : Int32} {x4 : Int32} {x5 : Int32} {u : ((Int32 × dc_M) ⊕ (Int32 × dc_M))} (hD : kr m0 m) (h : d_X10_stuck_l104 82 x1 x2 x3 x4 x5 m = some u) : (∀ s', u = .inl s' → kr m0 (s'.2)) ∧ (∀ e, u = .inr e → kr m0 (e.2)) := by
  unfold d_X10_stuck_l104 at h
  refine dc_lp_inv (fun s => kr m0 (s.2.2)) (fun u => (∀ s', u = .inl s' → kr m0 (s'.2)) ∧ (∀ e, u = .inr e → kr m0 (e.2))) (fun s s' hI e1 => ?_) (fun s e' hI e1 => ?_) hD h
  · unfold d_X10_stuck_l104s d_X10_stuck_l104b at e1
    by_cases c1 : (Int32.toInt (s.2.2.1 82 32)) ≤ (Int32.toInt s.2.1)
    · rw [if_pos c1] at e1
      cases e1
    · rw [if_neg c1] at e1
      exact (kr_X10_stuck_l116  hI e1).1 _ rfl
  · unfold d_X10_stuck_l104s d_X10_stuck_l104b at e1
    by_cases c1 : (Int32.toInt (s.2.2.1 82 32)) ≤ (Int32.toInt s.2.1)
    · rw [if_pos c1] at e1
      cases e1
      exact ⟨fun _ q => (by cases q; exact hI), fun _ q => (by cases q)⟩
    · rw [if_neg c1] at e1
      exact ⟨fun _ q => (by cases q; exact (kr_X10_stuck_l116  hI e1).2.1 _ rfl), fun _ q => (by cases q; exact (kr_X10_stuck_l116  hI e1).2.2 _ rfl)⟩
theorem kr_X10_stuck_l93 {m : dc_M} {m0 : dc_M} {x1 : Int32} {x2 : Int32} {x3 : Int32} {x4 : Int32} {e : (Int32 × dc_M)} (hD : kr m0 m) (h : d_X10_stuck_l93 82 x1 x2 x3 x4 m = some e) : kr m0 (e.2) := by
  unfold d_X10_stuck_l93 at h
  refine dc_lp_inv (fun s => kr m0 (s.2)) (fun e => kr m0 (e.2)) (fun s s' hI e1 => ?_) (fun s e' hI e1 => ?_) hD h
  · unfold d_X10_stuck_l93s d_X10_stuck_l93b at e1
    by_cases c1 : (Int32.toInt s.1) = 0
    · rw [if_pos c1] at e1
      cases hz : d_X10_stuck_l202 82 x1 x2 x3 (0 : Int32) (0 : Int32) (0 : Int32) s.2 with
      | none => rw [hz] at e1; cases e1
      | some z =>
        rw [hz] at e1
        cases e1
    · rw [if_neg c1] at e1
      exact (kr_X10_stuck_l104  hI e1).1 _ rfl
  · unfold d_X10_stuck_l93s d_X10_stuck_l93b at e1
    by_cases c1 : (Int32.toInt s.1) = 0
    · rw [if_pos c1] at e1
      cases hz : d_X10_stuck_l202 82 x1 x2 x3 (0 : Int32) (0 : Int32) (0 : Int32) s.2 with
      | none => rw [hz] at e1; cases e1
      | some z =>
        rw [hz] at e1
        cases e1
        exact kr_X10_stuck_l202  hI hz
    · rw [if_neg c1] at e1
      exact (kr_X10_stuck_l104  hI e1).2 _ rfl
theorem kr_X10_stuck_b56 {m : dc_M} {m0 : dc_M} {x1 : Int32} {x3 : Int32} {x4 : Int32} {s0 : Int32} {s1 : Int32} {u : ((Int32 × Int32 × Int32 × dc_M) ⊕ (Int32 × dc_M))} (hD : kr m0 m) (h : d_X10_stuck_b56 82 x1 x3 x4 s0 s1 m = some u) : (∀ s', u = .inl s' → kr m0 (s'.2.2.2)) ∧ (∀ e, u = .inr e → kr m0 (e.2)) := by
  unfold d_X10_stuck_b56 at h
  cases hq1 : (d_X10_readyIn 82 x4 m) with
  | none => rw [hq1] at h; cases h
  | some q1 =>
    rw [hq1, Option.bind_some] at h
    by_cases c1 : ¬ (Int32.toInt x4) = 0
    · rw [if_pos c1] at h
      cases h
      exact ⟨fun _ q => (by cases q; exact (kr_wi hD (by unfold krc; omega))), fun _ q => (by cases q)⟩
    · rw [if_neg c1] at h
      cases h
      exact ⟨fun _ q => (by cases q; exact (kr_wi hD (by unfold krc; omega))), fun _ q => (by cases q)⟩
theorem kr_X10_stuck_l32 {m : dc_M} {m0 : dc_M} {x1 : Int32} {x2 : Int32} {x3 : Int32} {x4 : Int32} {e : (Int32 × dc_M)} (hD : kr m0 m) (h : d_X10_stuck_l32 82 x1 x2 x3 x4 m = some e) : kr m0 (e.2) := by
  unfold d_X10_stuck_l32 at h
  refine dc_lp_inv (fun s => kr m0 (s.2.2.2)) (fun e => kr m0 (e.2)) (fun s s' hI e1 => ?_) (fun s e' hI e1 => ?_) hD h
  · unfold d_X10_stuck_l32s d_X10_stuck_l32b at e1
    by_cases c1 : (Int32.toInt (s.2.2.2.1 82 32)) ≤ (Int32.toInt s.2.2.1)
    · rw [if_pos c1] at e1
      cases hz : d_X10_stuck_l93 82 x1 s.1 s.2.1 (1 : Int32) s.2.2.2 with
      | none => rw [hz] at e1; cases e1
      | some z =>
        rw [hz] at e1
        cases e1
    · rw [if_neg c1] at e1
      cases hq1 : (d_X10_readyIn 82 s.2.2.1 s.2.2.2) with
      | none => rw [hq1] at e1; cases e1
      | some q1 =>
        rw [hq1, Option.bind_some] at e1
        by_cases c2 : ¬ (Int32.toInt q1) = 0
        · rw [if_pos c2] at e1
          exact (kr_X10_stuck_b56  hI e1).1 _ rfl
        · rw [if_neg c2] at e1
          exact (kr_X10_stuck_b56  hI e1).1 _ rfl
  · unfold d_X10_stuck_l32s d_X10_stuck_l32b at e1
    by_cases c1 : (Int32.toInt (s.2.2.2.1 82 32)) ≤ (Int32.toInt s.2.2.1)
    · rw [if_pos c1] at e1
      cases hz : d_X10_stuck_l93 82 x1 s.1 s.2.1 (1 : Int32) s.2.2.2 with
      | none => rw [hz] at e1; cases e1
      | some z =>
        rw [hz] at e1
        cases e1
        exact kr_X10_stuck_l93  hI hz
    · rw [if_neg c1] at e1
      cases hq1 : (d_X10_readyIn 82 s.2.2.1 s.2.2.2) with
      | none => rw [hq1] at e1; cases e1
      | some q1 =>
        rw [hq1, Option.bind_some] at e1
        by_cases c2 : ¬ (Int32.toInt q1) = 0
        · rw [if_pos c2] at e1
          exact (kr_X10_stuck_b56  hI e1).2 _ rfl
        · rw [if_neg c2] at e1
          exact (kr_X10_stuck_b56  hI e1).2 _ rfl
theorem kr_X10_stuck {m : dc_M} {m0 : dc_M} {x1 : Int32} {e : (Int32 × dc_M)} (hD : kr m0 m) (h : d_X10_stuck 82 x1 m = some e) : kr m0 (e.2) := by
  unfold d_X10_stuck at h
  by_cases c1 : ¬ (Int32.toInt (d_X10_in (Int32.toInt64 x1) (0 : Int64) (2 : Int64) m)) = 0
  · rw [if_pos c1] at h
    cases hq1 : (d_X10_layStates 82 m) with
    | none => rw [hq1] at h; cases h
    | some q1 =>
      rw [hq1, Option.bind_some] at h
      have dq1 := kr_X10_layStates hD hq1
      by_cases c2 : (Int32.toInt q1.1) = 1
      · rw [if_pos c2] at h
        exact kr_X10_stuck_l32  dq1 h
      · rw [if_neg c2] at h
        cases h
        exact dq1
  · rw [if_neg c1] at h
    cases h
    exact hD
theorem kr_X10_layAims_l12 {m : dc_M} {m0 : dc_M} {x1 : Int32} {x2 : Int32} {e : dc_M} (hD : kr m0 m) (h : d_X10_layAims_l12 82 x1 x2 m = some e) : kr m0 e := by
  unfold d_X10_layAims_l12 at h
  refine dc_lp_inv (fun s => kr m0 (s.2)) (fun e => kr m0 e) (fun s s' hI e1 => ?_) (fun s e' hI e1 => ?_) hD h
  · unfold d_X10_layAims_l12s d_X10_layAims_l12b at e1
    by_cases c1 : (Int32.toInt (s.2.1 82 32)) ≤ (Int32.toInt s.1)
    · rw [if_pos c1] at e1
      cases e1
    · rw [if_neg c1] at e1
      cases hq1 : (d_X10_aims 82 s.1 s.2) with
      | none => rw [hq1] at e1; cases e1
      | some q1 =>
        rw [hq1, Option.bind_some] at e1
        by_cases c2 : ¬ (Int32.toInt ((q1 >>> (x1 &&& 31)) &&& (1 : Int32))) = 1
        · rw [if_pos c2] at e1
          cases e1
          exact (kr_wl hI (by unfold krc; omega))
        · rw [if_neg c2] at e1
          cases e1
          exact (kr_wl hI (by unfold krc; omega))
  · unfold d_X10_layAims_l12s d_X10_layAims_l12b at e1
    by_cases c1 : (Int32.toInt (s.2.1 82 32)) ≤ (Int32.toInt s.1)
    · rw [if_pos c1] at e1
      cases e1
      exact hI
    · rw [if_neg c1] at e1
      cases hq1 : (d_X10_aims 82 s.1 s.2) with
      | none => rw [hq1] at e1; cases e1
      | some q1 =>
        rw [hq1, Option.bind_some] at e1
        by_cases c2 : ¬ (Int32.toInt ((q1 >>> (x1 &&& 31)) &&& (1 : Int32))) = 1
        · rw [if_pos c2] at e1
          cases e1
        · rw [if_neg c2] at e1
          cases e1
theorem kr_X10_layAims {m : dc_M} {m0 : dc_M} {x1 : Int32} {e : dc_M} (hD : kr m0 m) (h : d_X10_layAims 82 x1 m = some e) : kr m0 e := by
  unfold d_X10_layAims at h
  exact kr_X10_layAims_l12  (kr_wl (kr_wl hD (by unfold krc; omega)) (by unfold krc; omega)) h
theorem kr_X10_aim_b96 {m : dc_M} {m0 : dc_M} {x3 : Int32} {x4 : Int32} {e : (Int32 × dc_M)} (hD : kr m0 m) (h : d_X10_aim_b96 x3 x4 m = some e) : kr m0 (e.2) := by
  unfold d_X10_aim_b96 at h
  by_cases c1 : (Int32.toInt x3) = 0
  · rw [if_pos c1] at h
    by_cases c2 : (Int32.toInt x4) = 0
    · rw [if_pos c2] at h
      cases h
      exact hD
    · rw [if_neg c2] at h
      cases h
      exact hD
  · rw [if_neg c1] at h
    cases h
    exact hD
theorem kr_X10_aim_b80 {m : dc_M} {m0 : dc_M} {x3 : Int32} {s0 : Int32} {e : (Int32 × dc_M)} (hD : kr m0 m) (h : d_X10_aim_b80 x3 s0 m = some e) : kr m0 (e.2) := by
  unfold d_X10_aim_b80 at h
  by_cases c1 : (Int32.toInt x3) = 0
  · rw [if_pos c1] at h
    exact kr_X10_aim_b96  hD h
  · rw [if_neg c1] at h
    by_cases c2 : (Int32.toInt s0) = 0
    · rw [if_pos c2] at h
      exact kr_X10_aim_b96  hD h
    · rw [if_neg c2] at h
      cases h
      exact hD
theorem kr_X10_aim_b61 {m : dc_M} {m0 : dc_M} {x2 : Int32} {s0 : Int32} {e : (Int32 × dc_M)} (hD : kr m0 m) (h : d_X10_aim_b61 82 x2 s0 m = some e) : kr m0 (e.2) := by
  unfold d_X10_aim_b61 at h
  by_cases c1 : ¬ (Int32.toInt (lg_cmp (((m.2.1 82 48) >>> (Int32.toInt64 x2 &&& 63)) &&& (1 : Int64)) (1 : Int64))) = 0
  · rw [if_pos c1] at h
    exact kr_X10_aim_b80  hD h
  · rw [if_neg c1] at h
    exact kr_X10_aim_b80  hD h
theorem kr_X10_aim {m : dc_M} {m0 : dc_M} {x1 : Int32} {x2 : Int32} {e : (Int32 × dc_M)} (hD : kr m0 m) (h : d_X10_aim 82 x1 x2 m = some e) : kr m0 (e.2) := by
  unfold d_X10_aim at h
  by_cases c1 : (Int32.toInt (d_X10_isWire 82 x1 m)) = 0
  · rw [if_pos c1] at h
    cases h
    exact hD
  · rw [if_neg c1] at h
    by_cases c2 : ¬ (Int32.toInt (d_X10_in (Int32.toInt64 x2) (0 : Int64) (Int32.toInt64 (((1 : Int32) <<< ((m.1 82 0) &&& 31)) - (1 : Int32))) m)) = 0
    · rw [if_pos c2] at h
      cases hq1 : (d_X10_layRight 82 m) with
      | none => rw [hq1] at h; cases h
      | some q1 =>
        rw [hq1, Option.bind_some] at h
        have dq1 := kr_X10_layRight hD hq1
        by_cases c3 : ¬ (Int32.toInt q1.1) = 0
        · rw [if_pos c3] at h
          cases hq2 : (d_X10_layAims 82 x1 q1.2) with
          | none => rw [hq2] at h; cases h
          | some q2 =>
            rw [hq2, Option.bind_some] at h
            have dq2 := kr_X10_layAims dq1 hq2
            by_cases c4 : ¬ (Int32.toInt (lg_cmp (((q2.2.1 82 47) >>> (Int32.toInt64 x2 &&& 63)) &&& (1 : Int64)) (1 : Int64))) = 0
            · rw [if_pos c4] at h
              exact kr_X10_aim_b61  dq2 h
            · rw [if_neg c4] at h
              exact kr_X10_aim_b61  dq2 h
        · rw [if_neg c3] at h
          cases h
          exact dq1
    · rw [if_neg c2] at h
      cases h
      exact hD
theorem kr_X10_judge_b204 {m : dc_M} {m0 : dc_M} {x6 : Int64} {e : (Int32 × dc_M)} (hD : kr m0 m) (h : d_X10_judge_b204 82 x6 m = some e) : kr m0 (e.2) := by
  unfold d_X10_judge_b204 at h
  by_cases c1 : (Int32.toInt (lg_cmp (x6 &&& (m.2.1 82 48)) (0 : Int64))) = 0
  · rw [if_pos c1] at h
    by_cases c2 : (Int32.toInt (lg_cmp ((m.2.1 82 47) &&& (x6 ^^^ (-1 : Int64))) (0 : Int64))) = 0
    · rw [if_pos c2] at h
      cases h
      exact hD
    · rw [if_neg c2] at h
      cases h
      exact hD
  · rw [if_neg c1] at h
    cases h
    exact hD
theorem kr_X10_judge_l114 {m : dc_M} {m0 : dc_M} {x2 : Int32} {x4 : Int32} {x5 : Int32} {x6 : Int64} {x8 : Int32} {e : (Int32 × dc_M)} (hD : kr m0 m) (h : d_X10_judge_l114 82 x2 x4 x5 x6 x8 m = some e) : kr m0 (e.2) := by
  unfold d_X10_judge_l114 at h
  refine dc_lp_inv (fun s => kr m0 m) (fun e => kr m0 (e.2)) (fun s s' hI e1 => ?_) (fun s e' hI e1 => ?_) hD h
  · exact hI
  · unfold d_X10_judge_l114s d_X10_judge_l114b at e1
    by_cases c1 : (Int32.toInt x5) ≤ (Int32.toInt s.2)
    · rw [if_pos c1] at e1
      cases hz : d_X10_judge_b204 82 s.1 m with
      | none => rw [hz] at e1; cases e1
      | some z =>
        rw [hz] at e1
        cases e1
        exact kr_X10_judge_b204  hI hz
    · rw [if_neg c1] at e1
      by_cases c2 : ¬ (Int32.toInt (d_X10_in ((Int32.toInt64 x4) + (Int32.toInt64 s.2)) (0 : Int64) (Int32.toInt64 ((m.1 (82 + 36) (Int32.toNatClampNeg x2)) - (1 : Int32))) m)) = 0
      · rw [if_pos c2] at e1
        cases hq1 : (d_X10_cubeAll 82 m) with
        | none => rw [hq1] at e1; cases e1
        | some q1 =>
          rw [hq1, Option.bind_some] at e1
          by_cases c3 : ¬ (Int32.toInt (d_X10_in (Int32.toInt64 (m.1 (82 + 37) (Int32.toNatClampNeg ((((64 : Int32) * x2) + x4) + s.2)))) (0 : Int64) (Int32.toInt64 (q1 - (1 : Int32))) m)) = 0
          · rw [if_pos c3] at e1
            cases hq2 : (d_X10_levelsOf 82 (m.1 (82 + 37) (Int32.toNatClampNeg ((((64 : Int32) * x2) + x4) + s.2))) m) with
            | none => rw [hq2] at e1; cases e1
            | some q2 =>
              rw [hq2, Option.bind_some] at e1
              cases e1
          · rw [if_neg c3] at e1
            exact oi_r (fun e : Int32 × dc_M => kr m0 e.2) e1 hI
      · rw [if_neg c2] at e1
        exact oi_r (fun e : Int32 × dc_M => kr m0 e.2) e1 hI
theorem kr_X10_judge {m : dc_M} {m0 : dc_M} {x1 : Int32} {x2 : Int32} {x3 : Int32} {x4 : Int32} {x5 : Int32} {e : (Int32 × dc_M)} (hD : kr m0 m) (h : d_X10_judge 82 x1 x2 x3 x4 x5 m = some e) : kr m0 (e.2) := by
  unfold d_X10_judge at h
  by_cases c1 : (Int32.toInt (d_X10_isOwn 82 x1 m)) = 0
  · rw [if_pos c1] at h
    cases h
    exact hD
  · rw [if_neg c1] at h
    by_cases c2 : (Int32.toInt (d_X10_in (Int32.toInt64 x2) (0 : Int64) (3 : Int64) m)) = 0
    · rw [if_pos c2] at h
      cases h
      exact hD
    · rw [if_neg c2] at h
      by_cases c3 : (Int32.toInt (d_X10_in (Int32.toInt64 x3) (0 : Int64) (2 : Int64) m)) = 0
      · rw [if_pos c3] at h
        cases h
        exact hD
      · rw [if_neg c3] at h
        by_cases c4 : ¬ (Int32.toInt (d_X10_in (Int32.toInt64 x5) (0 : Int64) (30 : Int64) m)) = 0
        · rw [if_pos c4] at h
          cases hq1 : (d_X10_layRight 82 m) with
          | none => rw [hq1] at h; cases h
          | some q1 =>
            rw [hq1, Option.bind_some] at h
            have dq1 := kr_X10_layRight hD hq1
            by_cases c5 : ¬ (Int32.toInt q1.1) = 0
            · rw [if_pos c5] at h
              cases hq2 : (d_X10_layAims 82 x1 q1.2) with
              | none => rw [hq2] at h; cases h
              | some q2 =>
                rw [hq2, Option.bind_some] at h
                have dq2 := kr_X10_layAims dq1 hq2
                by_cases c6 : (Int32.toInt (lg_cmp ((q2.2.1 82 47) &&& (q2.2.1 82 48)) (0 : Int64))) = 0
                · rw [if_pos c6] at h
                  by_cases c7 : (Int32.toInt (q2.1 (82 + 35) (Int32.toNatClampNeg x2))) = (Int32.toInt x3)
                  · rw [if_pos c7] at h
                    exact kr_X10_judge_l114  dq2 h
                  · rw [if_neg c7] at h
                    by_cases c8 : ¬ (Int32.toInt (q2.1 (82 + 35) (Int32.toNatClampNeg x2))) = (-4)
                    · rw [if_pos c8] at h
                      cases h
                      exact dq2
                    · rw [if_neg c8] at h
                      cases h
                      exact dq2
                · rw [if_neg c6] at h
                  cases h
                  exact dq2
            · rw [if_neg c5] at h
              cases h
              exact dq1
        · rw [if_neg c4] at h
          cases h
          exact hD
