/-! ===== levels: the reference lays all wires' ===== -/
def OKw (bh W R L : Nat → Int32) (n E w : Nat) : Prop := ∃ b l, VA bh W R n E w b l ∧ (b = true → ∀ l', ¬ VA bh W R n E w false l') ∧ ∀ i, i < n → b32 (L i) w = l i
def LR (B : dc_M) (z : Int32 × dc_M) (n E Wn : Nat) : Prop := (∀ c k, ¬ (c = 82 ∧ k = 37) → c ≠ 101 → c ≠ 102 → z.2.1 c k = B.1 c k) ∧ z.2.2 = B.2 ∧ z.2.1 82 37 = z.1 ∧ ((z.1 = 1 ∧ (∀ w, w < Wn → OKw (B.1 100) (B.1 85) (B.1 86) (z.2.1 101) n E w) ∧ ∀ i j, i < n → Wn ≤ j → j < 32 → b32 (z.2.1 101 i) j = false) ∨ (z.1 = 0 ∧ ∃ w, w < Wn ∧ ∀ b l, ¬ VA (B.1 100) (B.1 85) (B.1 86) n E w b l))
theorem LG.fr {m1 m : dc_M} {n E : Nat} (G : LG m1 n E) (h32 : m.1 82 32 = m1.1 82 32) (h3 : m.1 82 3 = m1.1 82 3) (h86 : m.1 86 = m1.1 86) (h100 : m.1 100 = m1.1 100) : LG m n E := by
  unfold LG at G ⊢
  rw [h32, h3, h86, h100]
  exact G
theorem lrr_42 {B m : dc_M} {n E Wn w0 : Nat} {wI : Int32} {z : Int32 × dc_M} (G : LG B n E) (hW : (B.1 82 0).toInt = Wn) (hW6 : Wn ≤ 6) (hw : wI.toInt = w0) (hw0 : w0 ≤ Wn) (f1 : ∀ c k, ¬ (c = 82 ∧ k = 37) → c ≠ 101 → c ≠ 102 → m.1 c k = B.1 c k) (f2 : m.2 = B.2) (f3 : m.1 82 37 = 1) (f4 : ∀ w, w < w0 → OKw (B.1 100) (B.1 85) (B.1 86) (m.1 101) n E w) (f5 : ∀ i j, i < n → w0 ≤ j → j < 32 → b32 (m.1 101 i) j = false) (h : d_X10_layRight_l42 82 wI m = some z) : LR B z n E Wn := by
  unfold d_X10_layRight_l42 at h
  refine dc_lp_inv (f := d_X10_layRight_l42s 82) (s := (wI, m)) (fun p : Int32 × dc_M => (∀ c k, ¬ (c = 82 ∧ k = 37) → c ≠ 101 → c ≠ 102 → p.2.1 c k = B.1 c k) ∧ p.2.2 = B.2 ∧ ((p.2.1 82 37 = 1 ∧ ∃ w0 : Nat, p.1.toInt = w0 ∧ w0 ≤ Wn ∧ (∀ w, w < w0 → OKw (B.1 100) (B.1 85) (B.1 86) (p.2.1 101) n E w) ∧ ∀ i j, i < n → w0 ≤ j → j < 32 → b32 (p.2.1 101 i) j = false) ∨ (p.2.1 82 37 = 0 ∧ ∃ w, w < Wn ∧ ∀ b l, ¬ VA (B.1 100) (B.1 85) (B.1 86) n E w b l))) (fun z => LR B z n E Wn) (fun p p' hI hs => ?_) (fun p z hI hs => ?_) ⟨f1, f2, Or.inl ⟨f3, w0, hw, hw0, f4, f5⟩⟩ h
  · obtain ⟨wI, m⟩ := p
    obtain ⟨f1, f2, hI⟩ := hI
    have f1 : ∀ c k, ¬ (c = 82 ∧ k = 37) → c ≠ 101 → c ≠ 102 → m.1 c k = B.1 c k := f1
    have f2 : m.2 = B.2 := f2
    have hs : d_X10_layRight_l42b 82 wI m = some (.inl p') := hs
    unfold d_X10_layRight_l42b at hs
    rw [f1 82 0 (by omega) (by decide) (by decide), hW] at hs
    by_cases c1 : (Wn : Int) ≤ wI.toInt
    · rw [if_pos c1] at hs; cases hs
    · rw [if_neg c1] at hs
      rcases hI with ⟨g1, w0, hw, hw0, g4, g5⟩ | ⟨g1, -⟩
      · have g1 : m.1 82 37 = 1 := g1
        have hw : wI.toInt = w0 := hw
        have g4 : ∀ w, w < w0 → OKw (B.1 100) (B.1 85) (B.1 86) (m.1 101) n E w := g4
        have g5 : ∀ i j, i < n → w0 ≤ j → j < 32 → b32 (m.1 101 i) j = false := g5
        rw [g1, if_neg (by decide)] at hs
        have e100 : m.1 100 = B.1 100 := funext (fun k => f1 100 k (by omega) (by decide) (by decide))
        have e85 : m.1 85 = B.1 85 := funext (fun k => f1 85 k (by omega) (by decide) (by decide))
        have e86 : m.1 86 = B.1 86 := funext (fun k => f1 86 k (by omega) (by decide) (by decide))
        have G0 := G.fr (f1 82 32 (by omega) (by decide) (by decide)) (f1 82 3 (by omega) (by decide) (by decide)) e86 e100
        have p1 : (wI + 1).toInt = (w0 + 1 : Nat) := by rw [i1 (by omega) (Int32.le_toInt _)]; omega
        cases hq : d_X10_layLevels 82 wI 0 m with
        | none => rw [hq] at hs; cases hs
        | some q1 =>
          rw [hq, Option.bind_some] at hs
          obtain ⟨k1, k2, k3, k4⟩ := lw_run (b := false) hw (by omega) G0 hq
          rw [e100, e85, e86] at k4
          have o1 : ∀ c k, ¬ (c = 82 ∧ k = 37) → c ≠ 101 → c ≠ 102 → q1.2.1 c k = B.1 c k := fun c k h1 h2 h3 => (k1 c k h2 h3).trans (f1 c k h1 h2 h3)
          -- what stays of the wires ahead, and above
          have carry : ∀ {M : dc_M}, (∀ i j, j < 32 → j ≠ w0 → b32 (M.1 101 i) j = b32 (m.1 101 i) j) → (∀ w, w < w0 → OKw (B.1 100) (B.1 85) (B.1 86) (M.1 101) n E w) ∧ ∀ i j, i < n → w0 + 1 ≤ j → j < 32 → b32 (M.1 101 i) j = false := fun hM => by
            refine ⟨fun w hw' => ?_, fun i j hi hj h32 => ?_⟩
            · obtain ⟨b, l, v1, v2, v3⟩ := g4 w hw'
              exact ⟨b, l, v1, v2, fun i hi => by rw [hM i w (by omega) (by omega)]; exact v3 i hi⟩
            · rw [hM i j h32 (by omega)]
              exact g5 i j hi (by omega) h32
          rcases k4 with ⟨r1, l, v1, v2⟩ | ⟨r0, no⟩
          · rw [r1, if_pos (by decide)] at hs
            cases hs
            refine ⟨fun c k h1 h2 h3 => ?_, k2.trans f2, Or.inl ⟨wi_s, w0 + 1, p1, by omega, fun w hw' => ?_, fun i j hi hj h32 => ?_⟩⟩
            · show (dc_wi q1.2 82 37 1).1 c k = _
              rw [wi_k h1]; exact o1 c k h1 h2 h3
            · show OKw _ _ _ ((dc_wi q1.2 82 37 1).1 101) n E w
              rw [wi_f (by decide)]
              by_cases c : w = w0
              · rw [c]
                exact ⟨false, l, v1, fun q => absurd q (by decide), v2⟩
              · exact (carry k3).1 w (by omega)
            · show b32 ((dc_wi q1.2 82 37 1).1 101 i) j = false
              rw [wi_k (by omega)]
              exact (carry k3).2 i j hi hj h32
          · rw [r0, if_neg (fun q => q rfl)] at hs
            cases hq2 : d_X10_layLevels 82 wI 1 q1.2 with
            | none => rw [hq2] at hs; cases hs
            | some q2 =>
              rw [hq2, Option.bind_some] at hs
              have e100' : q1.2.1 100 = B.1 100 := funext (fun k => o1 100 k (by omega) (by decide) (by decide))
              have e85' : q1.2.1 85 = B.1 85 := funext (fun k => o1 85 k (by omega) (by decide) (by decide))
              have e86' : q1.2.1 86 = B.1 86 := funext (fun k => o1 86 k (by omega) (by decide) (by decide))
              obtain ⟨j1, j2, j3, j4⟩ := lw_run (b := true) hw (by omega) (G.fr (o1 82 32 (by omega) (by decide) (by decide)) (o1 82 3 (by omega) (by decide) (by decide)) e86' e100') hq2
              rw [e100', e85', e86'] at j4
              have o2 : ∀ c k, ¬ (c = 82 ∧ k = 37) → c ≠ 101 → c ≠ 102 → q2.2.1 c k = B.1 c k := fun c k h1 h2 h3 => (j1 c k h2 h3).trans (o1 c k h1 h2 h3)
              have j3' : ∀ i j, j < 32 → j ≠ w0 → b32 (q2.2.1 101 i) j = b32 (m.1 101 i) j := fun i j h1 h2 => (j3 i j h1 h2).trans (k3 i j h1 h2)
              rcases j4 with ⟨r1, l, v1, v2⟩ | ⟨r1, no2⟩
              · rw [r1, if_neg (by decide)] at hs
                cases hs
                refine ⟨fun c k h1 h2 h3 => ?_, j2.trans (k2.trans f2), Or.inl ⟨wi_s, w0 + 1, p1, by omega, fun w hw' => ?_, fun i j hi hj h32 => ?_⟩⟩
                · show (dc_wi q2.2 82 37 1).1 c k = _
                  rw [wi_k h1]; exact o2 c k h1 h2 h3
                · show OKw _ _ _ ((dc_wi q2.2 82 37 1).1 101) n E w
                  rw [wi_f (by decide)]
                  by_cases c : w = w0
                  · rw [c]
                    exact ⟨true, l, v1, fun _ => no, v2⟩
                  · exact (carry j3').1 w (by omega)
                · show b32 ((dc_wi q2.2 82 37 1).1 101 i) j = false
                  rw [wi_k (by omega)]
                  exact (carry j3').2 i j hi hj h32
              · rw [r1, if_pos (by decide)] at hs
                cases hs
                refine ⟨fun c k h1 h2 h3 => ?_, j2.trans (k2.trans f2), Or.inr ⟨wi_s, w0, by omega, fun b l hv => ?_⟩⟩
                · show (dc_wi q2.2 82 37 0).1 c k = _
                  rw [wi_k h1]; exact o2 c k h1 h2 h3
                · cases b
                  · exact no l hv
                  · exact no2 l hv
      · rw [show m.1 82 37 = 0 from g1, if_pos (by decide)] at hs
        cases hs
  · obtain ⟨wI, m⟩ := p
    obtain ⟨f1, f2, hI⟩ := hI
    have f1 : ∀ c k, ¬ (c = 82 ∧ k = 37) → c ≠ 101 → c ≠ 102 → m.1 c k = B.1 c k := f1
    have f2 : m.2 = B.2 := f2
    have hs : d_X10_layRight_l42b 82 wI m = some (.inr z) := hs
    unfold d_X10_layRight_l42b at hs
    rw [f1 82 0 (by omega) (by decide) (by decide), hW] at hs
    rcases hI with ⟨g1, w0, hw, hw0, g4, g5⟩ | ⟨g1, w, g2, g3⟩
    · have g1 : m.1 82 37 = 1 := g1
      have hw : wI.toInt = w0 := hw
      by_cases c1 : (Wn : Int) ≤ wI.toInt
      · rw [if_pos c1] at hs
        cases hs
        have : w0 = Wn := by omega
        subst this
        exact ⟨f1, f2, rfl, Or.inl ⟨g1, g4, g5⟩⟩
      · rw [if_neg c1, g1, if_neg (by decide)] at hs
        exfalso
        cases hq : d_X10_layLevels 82 wI 0 m with
        | none => rw [hq] at hs; cases hs
        | some q1 =>
          rw [hq, Option.bind_some] at hs
          split at hs
          · cases hs
          · cases hq2 : d_X10_layLevels 82 wI 1 q1.2 with
            | none => rw [hq2] at hs; cases hs
            | some q2 =>
              rw [hq2, Option.bind_some] at hs
              split at hs <;> cases hs
    · have g1 : m.1 82 37 = 0 := g1
      rw [g1, if_pos (show (0 : Int32).toInt = 0 by decide), ite_self] at hs
      cases hs
      exact ⟨f1, f2, g1, Or.inr ⟨rfl, w, g2, g3⟩⟩
/-- levels begin with 0 -/
theorem lrr_19 {B : dc_M} {n : Nat} {z : Int32 × dc_M} (hn : (B.1 82 32).toInt = n) (hn2 : n ≤ 200) (h : d_X10_layRight_l19 82 0 B = some z) : ∃ m, (∀ c k, c ≠ 101 → m.1 c k = B.1 c k) ∧ m.2 = B.2 ∧ (∀ i, i < n → m.1 101 i = 0) ∧ d_X10_layRight_l42 82 0 m = some z := by
  unfold d_X10_layRight_l19 at h
  refine dc_lp_inv (f := d_X10_layRight_l19s 82) (s := (0, B)) (fun p : Int32 × dc_M => ∃ s : Nat, p.1.toInt = s ∧ s ≤ n ∧ (∀ c k, c ≠ 101 → p.2.1 c k = B.1 c k) ∧ p.2.2 = B.2 ∧ ∀ i, i < s → p.2.1 101 i = 0) (fun z => ∃ m, (∀ c k, c ≠ 101 → m.1 c k = B.1 c k) ∧ m.2 = B.2 ∧ (∀ i, i < n → m.1 101 i = 0) ∧ d_X10_layRight_l42 82 0 m = some z) (fun p p' hI hs' => ?_) (fun p z hI hs' => ?_) ⟨0, rfl, Nat.zero_le _, fun _ _ _ => rfl, rfl, fun i hi => absurd hi (Nat.not_lt_zero i)⟩ h
  · obtain ⟨sI, m⟩ := p
    obtain ⟨s, hs, hsn, f1, f2, f3⟩ := hI
    have hs : sI.toInt = s := hs
    have f1 : ∀ c k, c ≠ 101 → m.1 c k = B.1 c k := f1
    have f3 : ∀ i, i < s → m.1 101 i = 0 := f3
    have hs' : d_X10_layRight_l19b 82 sI m = some (.inl p') := hs'
    unfold d_X10_layRight_l19b at hs'
    rw [f1 82 32 (by decide), hn] at hs'
    by_cases c1 : (n : Int) ≤ sI.toInt
    · rw [if_pos c1] at hs'
      cases hz : d_X10_layRight_l42 82 0 m with
      | none => rw [hz] at hs'; cases hs'
      | some q => rw [hz] at hs'; cases hs'
    · rw [if_neg c1] at hs'
      have hsN : sI.toNatClampNeg = s := by have := cl_n (x := sI) (by omega); omega
      have hs' : some (Sum.inl (sI + 1, dc_wi m 101 sI.toNatClampNeg 0)) = some (Sum.inl p') := hs'
      cases hs'
      refine ⟨s + 1, by show (sI + 1).toInt = _; rw [i1 (by omega) (Int32.le_toInt _)]; omega, by omega, fun c k hc => ?_, f2, fun i hi => ?_⟩
      · show (dc_wi m 101 _ 0).1 c k = _
        rw [wi_k (by omega)]; exact f1 c k hc
      · show (dc_wi m 101 _ 0).1 101 i = 0
        rw [hsN]
        by_cases q : i = s
        · rw [q]; exact wi_s
        · rw [wi_k (by omega)]; exact f3 i (by omega)
  · obtain ⟨sI, m⟩ := p
    obtain ⟨s, hs, hsn, f1, f2, f3⟩ := hI
    have hs : sI.toInt = s := hs
    have f1 : ∀ c k, c ≠ 101 → m.1 c k = B.1 c k := f1
    have hs' : d_X10_layRight_l19b 82 sI m = some (.inr z) := hs'
    unfold d_X10_layRight_l19b at hs'
    rw [f1 82 32 (by decide), hn] at hs'
    by_cases c1 : (n : Int) ≤ sI.toInt
    · rw [if_pos c1] at hs'
      cases hz : d_X10_layRight_l42 82 0 m with
      | none => rw [hz] at hs'; cases hs'
      | some q =>
        rw [hz] at hs'
        cases hs'
        exact ⟨m, f1, f2, fun i hi => f3 i (by omega), hz⟩
    · rw [if_neg c1] at hs'; cases hs'
