/-! ===== calls that explore: what the class remembers stays true, second part ===== -/
theorem oi_lr {α β : Type} {a : α} {b : β} (e : (some (Sum.inl a) : Option (α ⊕ β)) = some (Sum.inr b)) : False := by cases e
theorem oi_rl {α β : Type} {a : α} {b : β} (e : (some (Sum.inr b) : Option (α ⊕ β)) = some (Sum.inl a)) : False := by cases e
theorem oi_l {α β : Type} {a b : α} (P : α → Prop) (e : (some (Sum.inl a) : Option (α ⊕ β)) = some (Sum.inl b)) (p : P a) : P b := by cases e; exact p
theorem oi_r {α β : Type} {a b : β} (P : β → Prop) (e : (some (Sum.inr a) : Option (α ⊕ β)) = some (Sum.inr b)) (p : P a) : P b := by cases e; exact p
theorem oi_s {α : Type} {a b : α} (P : α → Prop) (e : some a = some b) (p : P a) : P b := by cases e; exact p
theorem cp_X7_findHome_l43 {m : dc_M} {a b : Nat} {c0 : dc_M} {x0 : Nat} {x1 : Int32} {x2 : Int32} {x3 : Int32} {x4 : Int32} {u : ((Int32 × Int32 × Int32 × dc_M) ⊕ (Int32 × dc_M))} (hx : x0 = 4) (hD : CP a b c0 m) (h : d_X7_findHome_l43 x0 x2 x3 x1 x4 m = some u) : (∀ s', u = .inl s' → CP a b c0 (s'.2.2.2)) ∧ (∀ e, u = .inr e → CP a b c0 (e.2)) := by
  unfold d_X7_findHome_l43 at h
  refine dc_lp_inv (fun s => CP a b c0 (s.2.2)) (fun u => (∀ s', u = .inl s' → CP a b c0 (s'.2.2.2)) ∧ (∀ e, u = .inr e → CP a b c0 (e.2))) (fun s s' hI e1 => ?_) (fun s e' hI e1 => ?_) hD h
  · obtain ⟨sa, sb, sm⟩ := s
    have hI : CP a b c0 sm := hI
    have e1 : d_X7_findHome_l43b x0 x2 x3 sa sb sm = some (.inl s') := e1
    unfold d_X7_findHome_l43b at e1
    by_cases c1 : (Int32.toInt sb) ≤ 0
    · rw [if_pos c1] at e1
      exact (oi_rl e1).elim
    · rw [if_neg c1] at e1
      by_cases c2 : ¬ (Int32.toInt (sm.1 (x0 + 7) (Int32.toNatClampNeg sb))) = 0
      · rw [if_pos c2] at e1
        exact oi_l (fun s : Int32 × Int32 × dc_M => CP a b c0 s.2.2) e1 hI
      · rw [if_neg c2] at e1
        cases hq1 : (d_X7_leadsHome x0 sb sm) with
        | none => rw [hq1] at e1; cases e1
        | some q1 =>
          rw [hq1, Option.bind_some] at e1
          by_cases c3 : (Int32.toInt q1) = 0
          · rw [if_pos c3] at e1
            exact oi_l (fun s : Int32 × Int32 × dc_M => CP a b c0 s.2.2) e1 hI
          · rw [if_neg c3] at e1
            exact oi_l (fun s : Int32 × Int32 × dc_M => CP a b c0 s.2.2) e1 (cp_wi hI (fun q => by unfold cpc; omega))
  · have e1 : d_X7_findHome_l43b x0 x2 x3 s.1 s.2.1 s.2.2 = some (.inr e') := e1
    unfold d_X7_findHome_l43b at e1
    by_cases c1 : (Int32.toInt s.2.1) ≤ 0
    · rw [if_pos c1] at e1
      exact oi_r (fun u : (Int32 × Int32 × Int32 × dc_M) ⊕ (Int32 × dc_M) => (∀ s', u = .inl s' → CP a b c0 (s'.2.2.2)) ∧ (∀ e, u = .inr e → CP a b c0 (e.2))) e1 ⟨fun s' q => (by rw [← Sum.inl.inj q]; exact hI), fun _ q => (by cases q)⟩
    · rw [if_neg c1] at e1
      by_cases c2 : ¬ (Int32.toInt (s.2.2.1 (x0 + 7) (Int32.toNatClampNeg s.2.1))) = 0
      · rw [if_pos c2] at e1
        exact (oi_lr e1).elim
      · rw [if_neg c2] at e1
        cases hq1 : (d_X7_leadsHome x0 s.2.1 s.2.2) with
        | none => rw [hq1] at e1; cases e1
        | some q1 =>
          rw [hq1, Option.bind_some] at e1
          by_cases c3 : (Int32.toInt q1) = 0
          · rw [if_pos c3] at e1
            exact (oi_lr e1).elim
          · rw [if_neg c3] at e1
            exact (oi_lr e1).elim
theorem cp_X7_findHome_l21 {m : dc_M} {a b : Nat} {c0 : dc_M} {x0 : Nat} {x1 : Int32} {x2 : Int32} {x3 : Int32} {e : (Int32 × dc_M)} (hx : x0 = 4) (hD : CP a b c0 m) (h : d_X7_findHome_l21 x0 x1 x2 x3 m = some e) : CP a b c0 (e.2) := by
  unfold d_X7_findHome_l21 at h
  refine dc_lp_inv (fun s => CP a b c0 (s.2.2.2)) (fun e => CP a b c0 (e.2)) (fun s s' hI e1 => ?_) (fun s e' hI e1 => ?_) hD h
  · unfold d_X7_findHome_l21s d_X7_findHome_l21b at e1
    by_cases c1 : 200 ≤ (Int32.toInt s.2.2.1)
    · rw [if_pos c1] at e1
      cases e1
    · rw [if_neg c1] at e1
      by_cases c2 : (Int32.toInt s.1) ≤ (Int32.toInt s.2.1)
      · rw [if_pos c2] at e1
        cases e1
      · rw [if_neg c2] at e1
        exact (cp_X7_findHome_l43 hx hI e1).1 _ rfl
  · unfold d_X7_findHome_l21s d_X7_findHome_l21b at e1
    by_cases c1 : 200 ≤ (Int32.toInt s.2.2.1)
    · rw [if_pos c1] at e1
      cases e1
      exact hI
    · rw [if_neg c1] at e1
      by_cases c2 : (Int32.toInt s.1) ≤ (Int32.toInt s.2.1)
      · rw [if_pos c2] at e1
        cases e1
        exact hI
      · rw [if_neg c2] at e1
        exact (cp_X7_findHome_l43 hx hI e1).2 _ rfl
theorem cp_X7_findHome {m : dc_M} {a b : Nat} {c0 : dc_M} {x0 : Nat} {e : (Int32 × dc_M)} (hx : x0 = 4) (hD : CP a b c0 m) (h : d_X7_findHome x0 m = some e) : CP a b c0 (e.2) := by
  unfold d_X7_findHome at h
  cases hq1 : (d_J7_fill_53178 (x0 + 7) (0 : Int32) m) with
  | none => rw [hq1] at h; cases h
  | some q1 =>
    rw [hq1, Option.bind_some] at h
    have dq1 := cp_J7_fill_53178 (fun q k => by unfold cpc; omega) hD hq1
    exact cp_X7_findHome_l21 hx (cp_wi dq1 (fun q => by unfold cpc; omega)) h
theorem cp_X7_astray {m : dc_M} {a b : Nat} {c0 : dc_M} {x0 : Nat} {e : (Int32 × dc_M)} (hx : x0 = 4) (hD : CP a b c0 m) (h : d_X7_astray x0 m = some e) : CP a b c0 (e.2) := by
  unfold d_X7_astray at h
  by_cases c1 : ¬ (Int32.toInt (m.1 x0 11)) = (-100)
  · rw [if_pos c1] at h
    cases h
    exact hD
  · rw [if_neg c1] at h
    cases hq1 : (d_X7_findHome x0 m) with
    | none => rw [hq1] at h; cases h
    | some q1 =>
      rw [hq1, Option.bind_some] at h
      have dq1 := cp_X7_findHome hx hD hq1
      cases h
      exact (cp_wi dq1 (fun q => by first | exact hx q _ | (unfold cpc; omega)))
theorem cp_X9_stuck {m : dc_M} {a b : Nat} {c0 : dc_M} {x1 : Int32} {e : (Int32 × dc_M)} (hD : CP a b c0 m) (h : d_X9_stuck 1 x1 m = some e) : CP a b c0 (e.2) := by
  unfold d_X9_stuck at h
  by_cases c1 : (Int32.toInt x1) < 0
  · rw [if_pos c1] at h
    cases h
    exact hD
  · rw [if_neg c1] at h
    by_cases c2 : (Int32.toInt x1) ≤ 2
    · rw [if_pos c2] at h
      cases hq1 : (d_X9_explore 1 m) with
      | none => rw [hq1] at h; cases h
      | some q1 =>
        rw [hq1, Option.bind_some] at h
        have dq1 := cp_ex hD hq1
        by_cases c3 : (Int32.toInt (q1.1 (1 + 3) 1)) = 0
        · rw [if_pos c3] at h
          by_cases c4 : (Int32.toInt x1) = 0
          · rw [if_pos c4] at h
            cases hq2 : (d_X7_ends (1 + 3) q1) with
            | none => rw [hq2] at h; cases h
            | some q2 =>
              rw [hq2, Option.bind_some] at h
              cases h
              exact dq1
          rw [if_neg c4] at h
          by_cases c5 : (Int32.toInt x1) = 1
          · rw [if_pos c5] at h
            cases hq3 : (d_X7_astray (1 + 3) q1) with
            | none => rw [hq3] at h; cases h
            | some q3 =>
              rw [hq3, Option.bind_some] at h
              have dq3 := cp_X7_astray (by omega) dq1 hq3
              cases h
              exact dq3
          rw [if_neg c5] at h
          cases h
          exact dq1
        · rw [if_neg c3] at h
          cases h
          exact dq1
    · rw [if_neg c2] at h
      cases h
      exact hD
theorem cp_X8_gather_l85 {m : dc_M} {a b : Nat} {c0 : dc_M} {x0 : Nat} {x2 : Nat} {x3 : Int32} {x4 : Int64} {x6 : Int32} {x7 : Int32} {u : ((Int32 × dc_M) ⊕ dc_M)} (hx : x0 = 15) (hD : CP a b c0 m) (h : d_X8_gather_l85 x0 x2 x3 x4 x6 x7 m = some u) : (∀ s', u = .inl s' → CP a b c0 (s'.2)) ∧ (∀ e, u = .inr e → CP a b c0 e) := by
  unfold d_X8_gather_l85 at h
  refine dc_lp_inv (fun s => CP a b c0 (s.2)) (fun u => (∀ s', u = .inl s' → CP a b c0 (s'.2)) ∧ (∀ e, u = .inr e → CP a b c0 e)) (fun s s' hI e1 => ?_) (fun s e' hI e1 => ?_) hD h
  · unfold d_X8_gather_l85s d_X8_gather_l85b at e1
    by_cases c1 : (Int32.toInt (s.2.1 x0 6)) ≤ (Int32.toInt s.1)
    · rw [if_pos c1] at e1
      cases e1
    · rw [if_neg c1] at e1
      by_cases c2 : (Int32.toInt ((x6 >>> (s.1 &&& 31)) &&& (1 : Int32))) = 0
      · rw [if_pos c2] at e1
        cases e1
        exact (cp_wl hI (fun q => by unfold cpc; omega))
      · rw [if_neg c2] at e1
        cases e1
        exact (cp_wl hI (fun q => by unfold cpc; omega))
  · unfold d_X8_gather_l85s d_X8_gather_l85b at e1
    by_cases c1 : (Int32.toInt (s.2.1 x0 6)) ≤ (Int32.toInt s.1)
    · rw [if_pos c1] at e1
      cases e1
      exact ⟨fun _ q => (by cases q; exact hI), fun _ q => (by cases q)⟩
    · rw [if_neg c1] at e1
      by_cases c2 : (Int32.toInt ((x6 >>> (s.1 &&& 31)) &&& (1 : Int32))) = 0
      · rw [if_pos c2] at e1
        cases e1
      · rw [if_neg c2] at e1
        cases e1
theorem cp_X8_gather_l57 {m : dc_M} {a b : Nat} {c0 : dc_M} {x0 : Nat} {x2 : Nat} {x3 : Int32} {e : dc_M} (hx : x0 = 15) (hD : CP a b c0 m) (h : d_X8_gather_l57 x0 x2 x3 m = some e) : CP a b c0 e := by
  unfold d_X8_gather_l57 at h
  refine dc_lp_inv (fun s => CP a b c0 (s.2)) (fun e => CP a b c0 e) (fun s s' hI e1 => ?_) (fun s e' hI e1 => ?_) hD h
  · unfold d_X8_gather_l57s d_X8_gather_l57b at e1
    by_cases c1 : (Int32.toInt (s.2.1 x2 0)) ≤ (Int32.toInt s.1)
    · rw [if_pos c1] at e1
      cases e1
    · rw [if_neg c1] at e1
      exact (cp_X8_gather_l85 hx hI e1).1 _ rfl
  · unfold d_X8_gather_l57s d_X8_gather_l57b at e1
    by_cases c1 : (Int32.toInt (s.2.1 x2 0)) ≤ (Int32.toInt s.1)
    · rw [if_pos c1] at e1
      cases e1
      exact hI
    · rw [if_neg c1] at e1
      exact (cp_X8_gather_l85 hx hI e1).2 _ rfl
theorem cp_X8_gather_l17 {m : dc_M} {a b : Nat} {c0 : dc_M} {x0 : Nat} {x2 : Nat} {x3 : Int32} {e : dc_M} (hx : x0 = 15) (hD : CP a b c0 m) (h : d_X8_gather_l17 x0 x2 x3 m = some e) : CP a b c0 e := by
  unfold d_X8_gather_l17 at h
  refine dc_lp_inv (fun s => CP a b c0 (s.2)) (fun e => CP a b c0 e) (fun s s' hI e1 => ?_) (fun s e' hI e1 => ?_) hD h
  · unfold d_X8_gather_l17s d_X8_gather_l17b at e1
    by_cases c1 : (Int32.toInt (s.2.1 x0 6)) ≤ (Int32.toInt s.1)
    · rw [if_pos c1] at e1
      cases hz : d_X8_gather_l57 x0 x2 (0 : Int32) s.2 with
      | none => rw [hz] at e1; cases e1
      | some z =>
        rw [hz] at e1
        cases e1
    · rw [if_neg c1] at e1
      cases e1
      exact (cp_wl (cp_wl (cp_wi hI (fun q => by first | exact hx q _ | (unfold cpc; omega))) (fun q => by unfold cpc; omega)) (fun q => by unfold cpc; omega))
  · unfold d_X8_gather_l17s d_X8_gather_l17b at e1
    by_cases c1 : (Int32.toInt (s.2.1 x0 6)) ≤ (Int32.toInt s.1)
    · rw [if_pos c1] at e1
      cases hz : d_X8_gather_l57 x0 x2 (0 : Int32) s.2 with
      | none => rw [hz] at e1; cases e1
      | some z =>
        rw [hz] at e1
        cases e1
        exact cp_X8_gather_l57 hx hI hz
    · rw [if_neg c1] at e1
      cases e1
theorem cp_X8_gather {m : dc_M} {a b : Nat} {c0 : dc_M} {x0 : Nat} {x1 : Int32} {x2 : Nat} {e : dc_M} (hx : x0 = 15) (hD : CP a b c0 m) (h : d_X8_gather x0 x1 x2 m = some e) : CP a b c0 e := by
  unfold d_X8_gather at h
  exact cp_X8_gather_l17 hx (cp_wi (cp_wi (cp_wi hD (fun q => by first | exact hx q _ | (unfold cpc; omega))) (fun q => by first | exact hx q _ | (unfold cpc; omega))) (fun q => by first | exact hx q _ | (unfold cpc; omega))) h
theorem cp_X9_gatherSums {m : dc_M} {a b : Nat} {c0 : dc_M}  {e : dc_M} (hD : CP a b c0 m) (h : d_X9_gatherSums 1 m = some e) : CP a b c0 e := by
  unfold d_X9_gatherSums at h
  by_cases c1 : ¬ (Int32.toInt (m.1 1 13)) = 0
  · rw [if_pos c1] at h
    cases h
    exact hD
  · rw [if_neg c1] at h
    cases hq1 : (d_X8_gather (1 + 14) (m.1 (m.2.2.1 1 7) 0) (1 + 3) m) with
    | none => rw [hq1] at h; cases h
    | some q1 =>
      rw [hq1, Option.bind_some] at h
      have dq1 := cp_X8_gather (by omega) hD hq1
      cases h
      exact (cp_wi dq1 (fun q => by unfold cpc; omega))
theorem cp_X9_aim_b105 {m : dc_M} {a b : Nat} {c0 : dc_M} {x3 : Int32} {x4 : Int32} {e : (Int32 × dc_M)} (hD : CP a b c0 m) (h : d_X9_aim_b105 x3 x4 m = some e) : CP a b c0 (e.2) := by
  unfold d_X9_aim_b105 at h
  by_cases c1 : (Int32.toInt x3) = 0
  · rw [if_pos c1] at h
    by_cases c2 : (Int32.toInt x4) = 0
    · rw [if_pos c2] at h
      cases h
      exact hD
    · rw [if_neg c2] at h
      cases h
      exact hD
  · rw [if_neg c1] at h
    cases h
    exact hD
theorem cp_X9_aim_b91 {m : dc_M} {a b : Nat} {c0 : dc_M} {x3 : Int32} {s0 : Int32} {e : (Int32 × dc_M)} (hD : CP a b c0 m) (h : d_X9_aim_b91 x3 s0 m = some e) : CP a b c0 (e.2) := by
  unfold d_X9_aim_b91 at h
  by_cases c1 : (Int32.toInt x3) = 0
  · rw [if_pos c1] at h
    exact cp_X9_aim_b105  hD h
  · rw [if_neg c1] at h
    by_cases c2 : (Int32.toInt s0) = 0
    · rw [if_pos c2] at h
      exact cp_X9_aim_b105  hD h
    · rw [if_neg c2] at h
      cases h
      exact hD
theorem cp_X9_aim_b67 {m : dc_M} {a b : Nat} {c0 : dc_M} {x1 : Int32} {x2 : Int32} {s0 : Int32} {e : (Int32 × dc_M)} (hD : CP a b c0 m) (h : d_X9_aim_b67 1 x1 x2 s0 m = some e) : CP a b c0 (e.2) := by
  unfold d_X9_aim_b67 at h
  by_cases c1 : (Int32.toInt (lg_cmp (((m.2.1 ((1 + 14) + 2) (Int32.toNatClampNeg x1)) >>> (Int32.toInt64 x2 &&& 63)) &&& (1 : Int64)) (0 : Int64))) = 0
  · rw [if_pos c1] at h
    exact cp_X9_aim_b91  hD h
  · rw [if_neg c1] at h
    exact cp_X9_aim_b91  hD h
theorem cp_X9_aim {m : dc_M} {a b : Nat} {c0 : dc_M} {x1 : Int32} {x2 : Int32} {e : (Int32 × dc_M)} (hD : CP a b c0 m) (h : d_X9_aim 1 x1 x2 m = some e) : CP a b c0 (e.2) := by
  unfold d_X9_aim at h
  by_cases c1 : (Int32.toInt (d_X3_hasWire (m.2.2.1 1 7) x1 m)) = 0
  · rw [if_pos c1] at h
    cases h
    exact hD
  · rw [if_neg c1] at h
    by_cases c2 : (Int32.toInt x2) < 0
    · rw [if_pos c2] at h
      cases h
      exact hD
    · rw [if_neg c2] at h
      by_cases c3 : (Int32.toInt x2) < (Int32.toInt ((1 : Int32) <<< ((m.1 (m.2.2.1 1 7) 0) &&& 31)))
      · rw [if_pos c3] at h
        cases hq1 : (d_X9_isRight 1 m) with
        | none => rw [hq1] at h; cases h
        | some q1 =>
          rw [hq1, Option.bind_some] at h
          have dq1 := cp_X9_isRight hD hq1
          by_cases c4 : ¬ (Int32.toInt q1.1) = 0
          · rw [if_pos c4] at h
            cases hq2 : (d_X9_gatherSums 1 q1.2) with
            | none => rw [hq2] at h; cases h
            | some q2 =>
              rw [hq2, Option.bind_some] at h
              have dq2 := cp_X9_gatherSums dq1 hq2
              by_cases c5 : (Int32.toInt (lg_cmp (((q2.2.1 ((1 + 14) + 1) (Int32.toNatClampNeg x1)) >>> (Int32.toInt64 x2 &&& 63)) &&& (1 : Int64)) (0 : Int64))) = 0
              · rw [if_pos c5] at h
                exact cp_X9_aim_b67  dq2 h
              · rw [if_neg c5] at h
                exact cp_X9_aim_b67  dq2 h
          · rw [if_neg c4] at h
            cases h
            exact dq1
      · rw [if_neg c3] at h
        cases h
        exact hD
theorem cp_X9_canBeMade {m : dc_M} {a b : Nat} {c0 : dc_M} {x1 : Int32} {e : (Int32 × dc_M)} (hD : CP a b c0 m) (h : d_X9_canBeMade 1 x1 m = some e) : CP a b c0 (e.2) := by
  unfold d_X9_canBeMade at h
  cases hq1 : (d_X9_isRight 1 m) with
  | none => rw [hq1] at h; cases h
  | some q1 =>
    rw [hq1, Option.bind_some] at h
    have dq1 := cp_X9_isRight hD hq1
    by_cases c1 : ¬ (Int32.toInt q1.1) = 0
    · rw [if_pos c1] at h
      cases hq2 : (d_X9_gatherSums 1 q1.2) with
      | none => rw [hq2] at h; cases h
      | some q2 =>
        rw [hq2, Option.bind_some] at h
        have dq2 := cp_X9_gatherSums dq1 hq2
        by_cases c2 : ¬ (Int32.toInt (d_X8_hasUnlikeAims (1 + 14) x1 q2)) = 0
        · rw [if_pos c2] at h
          cases h
          exact dq2
        · rw [if_neg c2] at h
          cases h
          exact dq2
    · rw [if_neg c1] at h
      cases h
      exact dq1
theorem cp_X9_judge_b161 {m : dc_M} {a b : Nat} {c0 : dc_M} {x1 : Int32} {x8 : Int64} {e : (Int32 × dc_M)} (hD : CP a b c0 m) (h : d_X9_judge_b161 1 x1 x8 m = some e) : CP a b c0 (e.2) := by
  unfold d_X9_judge_b161 at h
  by_cases c1 : (Int32.toInt (lg_cmp (x8 &&& (m.2.1 ((1 + 14) + 2) (Int32.toNatClampNeg x1))) (0 : Int64))) = 0
  · rw [if_pos c1] at h
    by_cases c2 : (Int32.toInt (lg_cmp ((m.2.1 ((1 + 14) + 1) (Int32.toNatClampNeg x1)) &&& (x8 ^^^ (-1 : Int64))) (0 : Int64))) = 0
    · rw [if_pos c2] at h
      cases h
      exact hD
    · rw [if_neg c2] at h
      cases h
      exact hD
  · rw [if_neg c1] at h
    cases h
    exact hD
theorem cp_X9_judge_l83 {m : dc_M} {a b : Nat} {c0 : dc_M} {x1 : Int32} {x4 : Int32} {x5 : Int32} {x6 : Nat} {x8 : Int64} {x10 : Int32} {e : (Int32 × dc_M)} (hD : CP a b c0 m) (h : d_X9_judge_l83 1 x1 x4 x5 x6 x8 x10 m = some e) : CP a b c0 (e.2) := by
  unfold d_X9_judge_l83 at h
  refine dc_lp_inv (fun s => CP a b c0 m) (fun e => CP a b c0 (e.2)) (fun s s' hI e1 => ?_) (fun s e' hI e1 => ?_) hD h
  · exact hI
  · unfold d_X9_judge_l83s d_X9_judge_l83b at e1
    by_cases c1 : (Int32.toInt x5) ≤ (Int32.toInt s.2)
    · rw [if_pos c1] at e1
      cases hz : d_X9_judge_b161 1 x1 s.1 m with
      | none => rw [hz] at e1; cases e1
      | some z =>
        rw [hz] at e1
        cases e1
        exact cp_X9_judge_b161  hI hz
    · rw [if_neg c1] at e1
      by_cases c2 : ¬ (Int32.toInt (d_X6_hasCells x6 x4 (s.2 + (1 : Int32)) m)) = 0
      · rw [if_pos c2] at e1
        by_cases c3 : ¬ (Int32.toInt (d_X8_isCube (1 + 14) (m.1 (x6 + 1) (Int32.toNatClampNeg (x4 + s.2))) m)) = 0
        · rw [if_pos c3] at e1
          cases hq1 : (d_X8_levelsIn (m.1 (x6 + 1) (Int32.toNatClampNeg (x4 + s.2))) (m.1 (m.2.2.1 1 7) 0) m) with
          | none => rw [hq1] at e1; cases e1
          | some q1 =>
            rw [hq1, Option.bind_some] at e1
            exact (oi_lr e1).elim
        · rw [if_neg c3] at e1
          exact oi_r (fun e : Int32 × dc_M => CP a b c0 e.2) e1 hI
      · rw [if_neg c2] at e1
        exact oi_r (fun e : Int32 × dc_M => CP a b c0 e.2) e1 hI
theorem cp_X9_judge {m : dc_M} {a b : Nat} {c0 : dc_M} {x1 : Int32} {x2 : Int32} {x3 : Int32} {x4 : Int32} {x5 : Int32} {e : (Int32 × dc_M)} (hD : CP a b c0 m) (h : d_X9_judge 1 x1 x2 x3 x4 x5 m = some e) : CP a b c0 (e.2) := by
  unfold d_X9_judge at h
  by_cases c1 : (Int32.toInt (d_X3_isMade (m.2.2.1 1 7) x1 m)) = 0
  · rw [if_pos c1] at h
    exact oi_s (fun e : Int32 × dc_M => CP a b c0 e.2) h hD
  · rw [if_neg c1] at h
    by_cases c2 : (Int32.toInt (d_X9_isSheet x2 m)) = 0
    · rw [if_pos c2] at h
      exact oi_s (fun e : Int32 × dc_M => CP a b c0 e.2) h hD
    · rw [if_neg c2] at h
      by_cases c3 : (Int32.toInt (d_X9_isLane x3 m)) = 0
      · rw [if_pos c3] at h
        exact oi_s (fun e : Int32 × dc_M => CP a b c0 e.2) h hD
      · rw [if_neg c3] at h
        by_cases c4 : (Int32.toInt x5) < 0
        · rw [if_pos c4] at h
          exact oi_s (fun e : Int32 × dc_M => CP a b c0 e.2) h hD
        · rw [if_neg c4] at h
          by_cases c5 : (Int32.toInt x5) ≤ 30
          · rw [if_pos c5] at h
            cases hq1 : (d_X9_canBeMade 1 x1 m) with
            | none => rw [hq1] at h; cases h
            | some q1 =>
              rw [hq1, Option.bind_some] at h
              have dq1 := cp_X9_canBeMade hD hq1
              by_cases c6 : ¬ (Int32.toInt q1.1) = 0
              · rw [if_pos c6] at h
                by_cases c7 : (Int32.toInt (d_X6_faultAs (q1.2.2.2.1 (1 + 39) (Int32.toNatClampNeg x2)) x3 q1.2)) = 0
                · rw [if_pos c7] at h
                  exact cp_X9_judge_l83  dq1 h
                · rw [if_neg c7] at h
                  exact oi_s (fun e : Int32 × dc_M => CP a b c0 e.2) h dq1
              · rw [if_neg c6] at h
                exact oi_s (fun e : Int32 × dc_M => CP a b c0 e.2) h dq1
          · rw [if_neg c5] at h
            exact oi_s (fun e : Int32 × dc_M => CP a b c0 e.2) h hD
