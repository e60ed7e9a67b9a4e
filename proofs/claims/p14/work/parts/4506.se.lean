/-! ===== levels: a wire's, whole ===== -/
/-- what a net's states give the laying -/
def LG (m1 : dc_M) (n E : Nat) : Prop := (n ≤ 200 ∧ 1 ≤ n) ∧ (m1.1 82 32).toInt = n ∧ (m1.1 82 3).toInt = E ∧ E ≤ 16 ∧ (∀ k, k < E → m1.1 86 k = 0 ∨ m1.1 86 k = 1) ∧ (∀ i k : Nat, i < n → k < E → m1.1 100 (16 * i + k) = -4 ∨ ∃ t, t < n ∧ m1.1 100 (16 * i + k) = Int32.ofNat t) ∧ ∀ t, 0 < t → t < n → ∃ i k, i < t ∧ ED (m1.1 100) n E i k t
theorem ll_68 {m1 m : dc_M} {n E w s : Nat} {b : Bool} {wI good more sI : Int32} {z : (Int32 × Int32 × dc_M) ⊕ (Int32 × dc_M)} (hw : wI.toInt = w) (hw2 : w < 32) (G : LG m1 n E) (hs : sI.toInt = s) (hsn : s ≤ n) (I : LI m1 m (m1.1 100) (m1.1 85) (m1.1 86) n E w b good) (P : LPs m (m1.1 100) (m1.1 85) (m1.1 86) n E w good more s 0) (h : d_X10_layLevels_l68 82 wI good more sI m = some z) : ∃ good' more' m', z = .inl (good', more', m') ∧ LI m1 m' (m1.1 100) (m1.1 85) (m1.1 86) n E w b good' ∧ LPs m' (m1.1 100) (m1.1 85) (m1.1 86) n E w good' more' n 0 := by
  obtain ⟨⟨G1, -⟩, G2, G3, G4, G5, G6, -⟩ := G
  unfold d_X10_layLevels_l68 at h
  refine dc_lp_inv (f := d_X10_layLevels_l68s 82 wI) (s := (good, more, sI, m)) (fun p : Int32 × Int32 × Int32 × dc_M => ∃ s : Nat, p.2.2.1.toInt = s ∧ s ≤ n ∧ LI m1 p.2.2.2 (m1.1 100) (m1.1 85) (m1.1 86) n E w b p.1 ∧ LPs p.2.2.2 (m1.1 100) (m1.1 85) (m1.1 86) n E w p.1 p.2.1 s 0) (fun z => ∃ good' more' m', z = .inl (good', more', m') ∧ LI m1 m' (m1.1 100) (m1.1 85) (m1.1 86) n E w b good' ∧ LPs m' (m1.1 100) (m1.1 85) (m1.1 86) n E w good' more' n 0) (fun p p' hI hs' => ?_) (fun p z hI hs' => ?_) ⟨s, hs, hsn, I, P⟩ h
  · obtain ⟨good, more, sI, m⟩ := p
    obtain ⟨s, hs, hsn, I, P⟩ := hI
    have hs : sI.toInt = s := hs
    have I : LI m1 m (m1.1 100) (m1.1 85) (m1.1 86) n E w b good := I
    have P : LPs m (m1.1 100) (m1.1 85) (m1.1 86) n E w good more s 0 := P
    have hs' : d_X10_layLevels_l68b 82 wI good more sI m = some (.inl p') := hs'
    unfold d_X10_layLevels_l68b at hs'
    rw [I.1 82 32 (by decide) (by decide), G2] at hs'
    by_cases c1 : (n : Int) ≤ sI.toInt
    · rw [if_pos c1] at hs'; cases hs'
    · rw [if_neg c1] at hs'
      obtain ⟨g', mo', m', e, I', P'⟩ := ll_80 hw hw2 hs (by omega) G1 G3 G4 G5 G6 I P hs'
      cases e
      exact ⟨s + 1, by show (sI + 1).toInt = _; rw [i1 (by omega) (Int32.le_toInt _)]; omega, by omega, I', P'⟩
  · obtain ⟨good, more, sI, m⟩ := p
    obtain ⟨s, hs, hsn, I, P⟩ := hI
    have hs : sI.toInt = s := hs
    have I : LI m1 m (m1.1 100) (m1.1 85) (m1.1 86) n E w b good := I
    have P : LPs m (m1.1 100) (m1.1 85) (m1.1 86) n E w good more s 0 := P
    have hs' : d_X10_layLevels_l68b 82 wI good more sI m = some (.inr z) := hs'
    unfold d_X10_layLevels_l68b at hs'
    rw [I.1 82 32 (by decide) (by decide), G2] at hs'
    by_cases c1 : (n : Int) ≤ sI.toInt
    · rw [if_pos c1] at hs'
      cases hs'
      have : s = n := by omega
      subst this
      exact ⟨good, more, m, rfl, I, P⟩
    · rw [if_neg c1] at hs'
      obtain ⟨g', mo', m', e, -⟩ := ll_80 hw hw2 hs (by omega) G1 G3 G4 G5 G6 I P hs'
      cases e
/-- what the laying of a wire comes to -/
def LO1 (m1 m : dc_M) (n E w : Nat) (b : Bool) (r : Int32) : Prop := (∀ c k, c ≠ 101 → c ≠ 102 → m.1 c k = m1.1 c k) ∧ m.2 = m1.2 ∧ (∀ i j, j < 32 → j ≠ w → b32 (m.1 101 i) j = b32 (m1.1 101 i) j) ∧ ((r = 1 ∧ ∃ l, VA (m1.1 100) (m1.1 85) (m1.1 86) n E w b l ∧ ∀ i, i < n → b32 (m.1 101 i) w = l i) ∨ (r = 0 ∧ ∀ l, ¬ VA (m1.1 100) (m1.1 85) (m1.1 86) n E w b l))
theorem ll_57 {m1 m : dc_M} {n E w : Nat} {b : Bool} {wI good more : Int32} {z : Int32 × dc_M} (hw : wI.toInt = w) (hw2 : w < 32) (G : LG m1 n E) (I : LI m1 m (m1.1 100) (m1.1 85) (m1.1 86) n E w b good) (hm : more = 1) (h : d_X10_layLevels_l57 82 wI good more m = some z) : LO1 m1 z.2 n E w b z.1 := by
  unfold d_X10_layLevels_l57 at h
  refine dc_lp_inv (f := d_X10_layLevels_l57s 82 wI) (s := (good, more, m)) (fun p : Int32 × Int32 × dc_M => LI m1 p.2.2 (m1.1 100) (m1.1 85) (m1.1 86) n E w b p.1 ∧ LPs p.2.2 (m1.1 100) (m1.1 85) (m1.1 86) n E w p.1 p.2.1 n 0) (fun z => LO1 m1 z.2 n E w b z.1) (fun p p' hI hs' => ?_) (fun p z hI hs' => ?_) ⟨I, Or.inr hm, fun q => by rw [show ((good, more, m) : Int32 × Int32 × dc_M).2.1 = 1 from hm] at q; exact absurd q (by decide)⟩ h
  · obtain ⟨good, more, m⟩ := p
    obtain ⟨I, P⟩ := hI
    have I : LI m1 m (m1.1 100) (m1.1 85) (m1.1 86) n E w b good := I
    have hs' : d_X10_layLevels_l57b 82 wI good more m = some (.inl p') := hs'
    unfold d_X10_layLevels_l57b at hs'
    split at hs'
    · cases hs'
    · obtain ⟨g', mo', m', e, I', P'⟩ := ll_68 (s := 0) hw hw2 G rfl (Nat.zero_le _) I ⟨Or.inl rfl, fun _ _ i k t _ hd => by unfold dn at hd; omega⟩ hs'
      cases e
      exact ⟨I', P'⟩
  · obtain ⟨good, more, m⟩ := p
    obtain ⟨I, P⟩ := hI
    have I : LI m1 m (m1.1 100) (m1.1 85) (m1.1 86) n E w b good := I
    have P : LPs m (m1.1 100) (m1.1 85) (m1.1 86) n E w good more n 0 := P
    have hs' : d_X10_layLevels_l57b 82 wI good more m = some (.inr z) := hs'
    unfold d_X10_layLevels_l57b at hs'
    by_cases c1 : more.toInt = 0
    · rw [if_pos c1] at hs'
      cases hs'
      obtain ⟨f1, f2, f3, f4, f5, f6⟩ := I
      refine ⟨f1, f2, f3, ?_⟩
      rcases f5 with q | q
      · refine Or.inr ⟨q, fun l hl => ?_⟩
        have := (f6 l hl).1
        rw [q] at this
        exact absurd this (by decide)
      · have PP := P.2 (i32_01.mp c1) q
        have al : ∀ t, t < n → m.1 102 t ≠ 0 := fun t => by
          induction t using Nat.strongRecOn with
          | ind t ih =>
            intro ht
            by_cases c : t = 0
            · rw [c]; exact f4.1
            · obtain ⟨i, k, hi, ed⟩ := G.2.2.2.2.2.2 t (by omega) ht
              exact (PP i k t ed (by have := ed.1; unfold dn; omega) (ih i hi (by omega))).1
        refine Or.inl ⟨q, fun i => b32 (m.1 101 i) w, ⟨f4.2, fun i k t ed => ?_⟩, fun i _ => rfl⟩
        obtain ⟨-, g1, g2⟩ := PP i k t ed (by have := ed.1; unfold dn; omega) (al i ed.1)
        exact ⟨g1, g2⟩
    · rw [if_neg c1] at hs'
      obtain ⟨g', mo', m', e, -⟩ := ll_68 (s := 0) hw hw2 G rfl (Nat.zero_le _) I ⟨Or.inl rfl, fun _ _ i k t _ hd => by unfold dn at hd; omega⟩ hs'
      cases e
theorem lw_run {m1 : dc_M} {n E w : Nat} {b : Bool} {wI : Int32} {z : Int32 × dc_M} (hw : wI.toInt = w) (hw2 : w < 32) (G : LG m1 n E) (h : d_X10_layLevels 82 wI (bo b) m1 = some z) : LO1 m1 z.2 n E w b z.1 := by
  have hwn : wI.toNatClampNeg = w := by have := cl_n (x := wI) (by omega); omega
  have ⟨⟨G1, G1'⟩, G2, _⟩ := G
  unfold d_X10_layLevels d_X10_layLevels_l2 at h
  refine dc_lp_inv (f := d_X10_layLevels_l2s 82 wI (bo b)) (s := (0, m1)) (fun p : Int32 × dc_M => ∃ s : Nat, p.1.toInt = s ∧ s ≤ n ∧ (∀ c k, c ≠ 102 → p.2.1 c k = m1.1 c k) ∧ p.2.2 = m1.2 ∧ ∀ i, i < s → p.2.1 102 i = 0) (fun z => LO1 m1 z.2 n E w b z.1) (fun p p' hI hs' => ?_) (fun p z hI hs' => ?_) ⟨0, rfl, Nat.zero_le _, fun _ _ _ => rfl, rfl, fun i hi => absurd hi (Nat.not_lt_zero i)⟩ h
  · obtain ⟨sI, m⟩ := p
    obtain ⟨s, hs, hsn, f1, f2, f3⟩ := hI
    have hs : sI.toInt = s := hs
    have f1 : ∀ c k, c ≠ 102 → m.1 c k = m1.1 c k := f1
    have f3 : ∀ i, i < s → m.1 102 i = 0 := f3
    have hs' : d_X10_layLevels_l2b 82 wI (bo b) sI m = some (.inl p') := hs'
    unfold d_X10_layLevels_l2b at hs'
    rw [f1 82 32 (by decide), G2] at hs'
    by_cases c1 : (n : Int) ≤ sI.toInt
    · rw [if_pos c1] at hs'
      cases hz : d_X10_layLevels_b23 82 wI (bo b) m with
      | none => rw [hz] at hs'; cases hs'
      | some q => rw [hz] at hs'; cases hs'
    · rw [if_neg c1, nar_01.1] at hs'
      have hsN : sI.toNatClampNeg = s := by have := cl_n (x := sI) (by omega); omega
      have hs' : some (Sum.inl (sI + 1, dc_wi m 102 sI.toNatClampNeg 0)) = some (Sum.inl p') := hs'
      cases hs'
      refine ⟨s + 1, by show (sI + 1).toInt = _; rw [i1 (by omega) (Int32.le_toInt _)]; omega, by omega, fun c k hc => ?_, f2, fun i hi => ?_⟩
      · show (dc_wi m 102 _ 0).1 c k = _
        rw [wi_k (by omega)]; exact f1 c k hc
      · show (dc_wi m 102 _ 0).1 102 i = 0
        rw [hsN]
        by_cases q : i = s
        · rw [q]; exact wi_s
        · rw [wi_k (by omega)]; exact f3 i (by omega)
  · obtain ⟨sI, m⟩ := p
    obtain ⟨s, hs, hsn, f1, f2, f3⟩ := hI
    have hs : sI.toInt = s := hs
    have f1 : ∀ c k, c ≠ 102 → m.1 c k = m1.1 c k := f1
    have f2 : m.2 = m1.2 := f2
    have f3 : ∀ i, i < s → m.1 102 i = 0 := f3
    have hs' : d_X10_layLevels_l2b 82 wI (bo b) sI m = some (.inr z) := hs'
    unfold d_X10_layLevels_l2b at hs'
    rw [f1 82 32 (by decide), G2] at hs'
    by_cases c1 : (n : Int) ≤ sI.toInt
    · rw [if_pos c1] at hs'
      cases hz : d_X10_layLevels_b23 82 wI (bo b) m with
      | none => rw [hz] at hs'; cases hs'
      | some q =>
        rw [hz] at hs'
        cases hs'
        unfold d_X10_layLevels_b23 at hz
        rw [nar_01.2] at hz
        have hz : d_X10_layLevels_l57 82 wI 1 1 (dc_wi (dc_wi m 102 0 1) 101 0 ((m.1 101 0 &&& (((1 : Int32) <<< (wI &&& 31)) ^^^ -1)) ||| (bo b <<< (wI &&& 31)))) = some z := hz
        have l1 : ∀ i, (dc_wi (dc_wi m 102 0 1) 101 0 ((m.1 101 0 &&& (((1 : Int32) <<< (wI &&& 31)) ^^^ -1)) ||| (bo b <<< (wI &&& 31)))).1 101 i = if i = 0 then ((m1.1 101 0 &&& (((1 : Int32) <<< (wI &&& 31)) ^^^ -1)) ||| (bo b <<< (wI &&& 31))) else m1.1 101 i := fun i => by
          by_cases q : i = 0
          · rw [if_pos q, q, wi_s, f1 101 0 (by decide)]
          · rw [if_neg q, wi_k (by omega), wi_k (by omega)]; exact f1 101 i (by decide)
        have l2 : ∀ i, (dc_wi (dc_wi m 102 0 1) 101 0 ((m.1 101 0 &&& (((1 : Int32) <<< (wI &&& 31)) ^^^ -1)) ||| (bo b <<< (wI &&& 31)))).1 102 i = if i = 0 then 1 else m.1 102 i := fun i => by
          by_cases q : i = 0
          · rw [if_pos q, q, wi_k (by omega), wi_s]
          · rw [if_neg q, wi_k (by omega), wi_k (by omega)]
        have tb : ∀ j, j < 32 → b32 ((m1.1 101 0 &&& (((1 : Int32) <<< (wI &&& 31)) ^^^ -1)) ||| (bo b <<< (wI &&& 31))) j = if j = w then b else b32 (m1.1 101 0) j := fun j hj => by
          rw [b32_set ⟨by omega, by omega⟩ hj, hwn]
        have ff : ∀ c k, c ≠ 101 → c ≠ 102 → (dc_wi (dc_wi m 102 0 1) 101 0 ((m.1 101 0 &&& (((1 : Int32) <<< (wI &&& 31)) ^^^ -1)) ||| (bo b <<< (wI &&& 31)))).1 c k = m1.1 c k := fun c k h1 h2 => by
          rw [wi_k (by omega), wi_k (by omega)]; exact f1 c k h2
        have f2' : (dc_wi (dc_wi m 102 0 1) 101 0 ((m.1 101 0 &&& (((1 : Int32) <<< (wI &&& 31)) ^^^ -1)) ||| (bo b <<< (wI &&& 31)))).2 = m1.2 := f2
        generalize dc_wi (dc_wi m 102 0 1) 101 0 ((m.1 101 0 &&& (((1 : Int32) <<< (wI &&& 31)) ^^^ -1)) ||| (bo b <<< (wI &&& 31))) = M at hz l1 l2 ff f2'
        refine ll_57 hw hw2 G ⟨ff, f2', fun i j hj hjw => ?_, ⟨by rw [l2, if_pos rfl]; decide, by rw [l1, if_pos rfl, tb w hw2, if_pos rfl]⟩, Or.inr rfl, fun l hl => ⟨rfl, fun i hi hd => ?_⟩⟩ rfl hz
        · rw [l1]
          by_cases q : i = 0
          · rw [if_pos q, tb j hj, if_neg hjw, q]
          · rw [if_neg q]
        · by_cases q : i = 0
          · rw [q, l1, if_pos rfl, tb w hw2, if_pos rfl]
            exact hl.1.symm
          · rw [l2, if_neg q] at hd
            exact absurd (f3 i (by omega)) hd
    · rw [if_neg c1] at hs'; cases hs'
/-- levels that go for all, along the ways on which states were met -/
theorem va_tree {bh W R : Nat → Int32} {n E w : Nat} {b : Bool} {l d : Nat → Bool} (hl : VA bh W R n E w b l) (h0 : d 0 = false) (ht : ∀ t, 0 < t → t < n → ∃ i k, i < t ∧ ED bh n E i k t ∧ d t = (d i ^^ decide ((W k).toInt = w))) : ∀ t, t < n → l t = (d t ^^ b) := fun t => by
  induction t using Nat.strongRecOn with
  | ind t ih =>
    intro htn
    by_cases c : t = 0
    · rw [c, hl.1, h0]
      cases b <;> rfl
    · obtain ⟨i, k, hi, ed, q⟩ := ht t (by omega) htn
      have hi2 := ih i hi (by omega)
      obtain ⟨v1, v2⟩ := hl.2 i k t ed
      rw [q]
      by_cases cw : (W k).toInt = w
      · obtain ⟨w1, w2⟩ := v1 cw
        rw [decide_eq_true cw]
        rw [w1] at hi2
        rw [w2]
        revert hi2
        cases decide (R k = 1) <;> cases d i <;> cases b <;> decide
      · rw [v2 cw, hi2, decide_eq_false cw, Bool.xor_false]
