/-! ===== the net while it is read: wires, events ===== -/
/-- the class's net; the reference's lists -/
def cn (a : Nat) (c : dc_M) : Nat → Nat → Int32 := fun i k => c.1 (a + i) k
def mn (m : dc_M) : Nat → Nat → Int32 := fun i k => m.1 (92 + i) k
def XW (n w : Nat → Nat → Int32) (w0 : Int32) : Prop := n 0 0 = w0 ∧ 0 ≤ (n 0 0).toInt ∧ (n 0 0).toInt ≤ 6 ∧ ∀ j : Nat, (j : Int) < (n 0 0).toInt → n 1 j = w 0 j ∧ n 2 j = w 1 j ∧ 0 ≤ (n 2 j).toInt
def XE (F T : Int32) (n w : Nat → Nat → Int32) (w1 : Int32) : Prop := n 0 1 = w1 ∧ 0 ≤ (n 0 1).toInt ∧ (n 0 1).toInt ≤ 16 ∧ ∀ j : Nat, (j : Int) < (n 0 1).toInt → n 3 j = w 2 j ∧ n 4 j = w 3 j ∧ n 5 j = w 4 j ∧ n 8 j = 1 ∧ (0 ≤ (n 3 j).toInt ∧ (n 3 j).toInt < (n 0 0).toInt) ∧ ∀ k, k < 32 → b32 (w 5 j) k = (b32 (n 6 j) k || (decide (k = (n 0 2).toNatClampNeg) && b32 T j)) ∧ b32 (w 6 j) k = (b32 (n 7 j) k || (decide (k = (n 0 2).toNatClampNeg) && b32 F j)) ∧ ((n 0 2).toInt ≤ k → b32 (n 6 j) k = false ∧ b32 (n 7 j) k = false)
def XS (F T : Int32) (n : Nat → Nat → Int32) : Prop := ∀ k : Nat, (n 0 1).toInt ≤ k → k < 32 → b32 F k = false ∧ b32 T k = false
/-- no token beyond the places -/
def XQb (x : Int32) : Prop := ∀ k : Nat, 20 ≤ k → k < 32 → b32 x k = false
def XP (n : Nat → Nat → Int32) (w2 w3 : Int32) : Prop := n 0 2 = w2 ∧ 0 ≤ (n 0 2).toInt ∧ (n 0 2).toInt ≤ 20 ∧ n 0 13 = w3 ∧ XQb (n 0 13)
def XB (n : Nat → Nat → Int32) : Prop := ∀ p : Nat, (p : Int) < (n 0 2).toInt → ∀ k, k < 32 → b32 (n 9 p) k = (decide ((k : Int) < (n 0 1).toInt) && b32 (n 7 k) p) ∧ b32 (n 10 p) k = (decide ((k : Int) < (n 0 1).toInt) && b32 (n 6 k) p)
def NT (a : Nat) (F T : Int32) (c m : dc_M) : Prop := XW (cn a c) (mn m) (m.1 82 21) ∧ XE F T (cn a c) (mn m) (m.1 82 24) ∧ XS F T (cn a c) ∧ XP (cn a c) (m.1 82 30) (m.1 82 31) ∧ XB (cn a c)
theorem NT.eq {a : Nat} {F T : Int32} {c m c' m' : dc_M} (h : NT a F T c m) (e1 : cn a c' = cn a c) (e2 : mn m' = mn m) (e3 : ∀ k, k = 21 ∨ k = 24 ∨ k = 30 ∨ k = 31 → m'.1 82 k = m.1 82 k) : NT a F T c' m' := by
  unfold NT at h ⊢
  rw [e1, e2, e3 21 (by omega), e3 24 (by omega), e3 30 (by omega), e3 31 (by omega)]
  exact h
theorem fc.cn {a : Nat} {c c' : dc_M} (x : fc c c') (ha : a = 41 ∨ a = 52) : cn a c' = cn a c := by
  funext i k
  exact x.1 _ _ (by omega)
theorem fm.mn {m m' : dc_M} (y : fm m m') : mn m' = mn m := by
  funext i k
  exact y.1 _ _ (by omega)
theorem NT.fr {a : Nat} {F T : Int32} {c m c' m' : dc_M} (h : NT a F T c m) (ha : a = 41 ∨ a = 52) (x : fc c c') (y : fm m m') : NT a F T c' m' := h.eq (x.cn ha) y.mn (fun k hk => y.1 _ _ (by omega))
/-- the class's reader, the reference's reader: the same -/
def sR (c c' : dc_M) : Prop := (∀ b k, b < 41 → c'.1 b k = c.1 b k) ∧ c'.2 = c.2
def sM (m m' : dc_M) : Prop := (∀ k, 13 ≤ k ∧ k ≤ 20 → m'.1 82 k = m.1 82 k) ∧ ∀ k, m'.1 91 k = m.1 91 k
theorem GV.s {p : Int} {c m c' m' : dc_M} (g : GV p c m) (x : sR c c') (y : sM m m') : GV p c' m' := by
  have e2 : c'.1 2 = c.1 2 := funext (fun k => x.1 2 k (by omega))
  have e3 : c'.1 3 = c.1 3 := funext (fun k => x.1 3 k (by omega))
  unfold GV tp tk nf at g ⊢
  rw [e2, e3, x.2, y.1 13 (by omega), y.1 15 (by omega), y.1 17 (by omega), y.1 18 (by omega), y.1 19 (by omega), y.1 20 (by omega), show m'.1 91 = m.1 91 from funext y.2]
  exact g
/-! wires -/
theorem wc_sim {a : Nat} {x q q' : Int32} {c m : dc_M} (h : XW (cn a c) (mn m) (m.1 82 21)) (h1 : d_X3_wireCalled a x c = some q) (h2 : d_X10_wireAt 82 x m = some q') : q = q' ∧ (q = -4 ∨ (0 ≤ q.toInt ∧ q.toInt < (c.1 a 0).toInt)) := by
  unfold d_X3_wireCalled d_X3_wireCalled_l2 at h1
  unfold d_X10_wireAt d_X10_wireAt_l2 at h2
  obtain ⟨w1, w2, w3, w4⟩ := h
  have w1 : c.1 a 0 = m.1 82 21 := w1
  have w3 : (c.1 a 0).toInt ≤ 6 := w3
  refine dc_lp_sim (fun s t => s = t ∧ 0 ≤ s.toInt) (fun q q' => q = q' ∧ (q = -4 ∨ (0 ≤ q.toInt ∧ q.toInt < (c.1 a 0).toInt))) (fun s t u v hg hf hk => ?_) ⟨rfl, by decide⟩ h1 h2
  obtain ⟨rfl, h0⟩ := hg
  unfold d_X3_wireCalled_l2s d_X3_wireCalled_l2b at hf
  unfold d_X10_wireAt_l2s d_X10_wireAt_l2b at hk
  rw [← w1] at hk
  by_cases hp : (c.1 a 0).toInt ≤ s.toInt
  · rw [if_pos hp] at hf hk
    cases hf
    cases hk
    exact Or.inr ⟨_, _, rfl, rfl, rfl, Or.inl rfl⟩
  · rw [if_neg hp] at hf hk
    have hn := cl_n h0
    have e : c.1 (a + 1) s.toNatClampNeg = m.1 (82 + 10) s.toNatClampNeg := (w4 s.toNatClampNeg (by show _ < (c.1 a 0).toInt; omega)).1
    rw [← e] at hk
    by_cases hx : (c.1 (a + 1) s.toNatClampNeg).toInt = x.toInt
    · rw [if_neg (fun z => z hx)] at hf hk
      cases hf
      cases hk
      exact Or.inr ⟨_, _, rfl, rfl, rfl, Or.inr ⟨h0, by omega⟩⟩
    · rw [if_pos hx] at hf hk
      cases hf
      cases hk
      exact Or.inl ⟨_, _, rfl, rfl, rfl, by rw [i1 (by omega) (Int32.le_toInt _)]; omega⟩
/-! events -/
theorem el_sim {a : Nat} {x y z q x1 x2 F T : Int32} {e' c m : dc_M} (h : XE F T (cn a c) (mn m) (m.1 82 24)) (h1 : d_X3_eventLike a x y z c = some q) (h2 : d_X10_readEvent_l183 82 x1 x2 x y z 0 m = some e') : (q = -4 ∧ d_X10_readEvent_b233 82 x1 x2 x y z (m.1 82 24) m = some e') ∨ (0 ≤ q.toInt ∧ q.toInt < (c.1 a 1).toInt ∧ d_X10_readEvent_b233 82 x1 x2 x y z q m = some e') := by
  unfold d_X3_eventLike d_X3_eventLike_l3 at h1
  unfold d_X10_readEvent_l183 at h2
  obtain ⟨w1, w2, w3, w4⟩ := h
  have w1 : c.1 a 1 = m.1 82 24 := w1
  have w2 : 0 ≤ (c.1 a 1).toInt := w2
  have w3 : (c.1 a 1).toInt ≤ 16 := w3
  refine dc_lp_sim (fun s t => s = t ∧ 0 ≤ s.toInt ∧ s.toInt ≤ (c.1 a 1).toInt) (fun q e' => (q = -4 ∧ d_X10_readEvent_b233 82 x1 x2 x y z (m.1 82 24) m = some e') ∨ (0 ≤ q.toInt ∧ q.toInt < (c.1 a 1).toInt ∧ d_X10_readEvent_b233 82 x1 x2 x y z q m = some e')) (fun s t u v hg hf hk => ?_) ⟨rfl, by decide, w2⟩ h1 h2
  obtain ⟨rfl, h0, h3⟩ := hg
  unfold d_X3_eventLike_l3s d_X3_eventLike_l3b at hf
  unfold d_X10_readEvent_l183s d_X10_readEvent_l183b at hk
  rw [← w1] at hk
  by_cases hp : (c.1 a 1).toInt ≤ s.toInt
  · rw [if_pos hp] at hf hk
    cases hf
    cases hb : d_X10_readEvent_b233 82 x1 x2 x y z s m with
    | none => rw [hb] at hk; cases hk
    | some r =>
      rw [hb] at hk
      cases hk
      refine Or.inr ⟨_, _, rfl, rfl, Or.inl ⟨rfl, ?_⟩⟩
      rw [show m.1 82 24 = s from w1.symm.trans (Int32.toInt_inj.mp (by omega))]
      exact hb
  · rw [if_neg hp] at hf hk
    have hn := cl_n h0
    obtain ⟨e3, e4, e5, -⟩ := w4 s.toNatClampNeg (by show _ < (c.1 a 1).toInt; omega)
    have e3 : c.1 (a + 3) s.toNatClampNeg = m.1 (82 + 12) s.toNatClampNeg := e3
    have e4 : c.1 (a + 4) s.toNatClampNeg = m.1 (82 + 13) s.toNatClampNeg := e4
    have e5 : c.1 (a + 5) s.toNatClampNeg = m.1 (82 + 14) s.toNatClampNeg := e5
    rw [← e3, ← e4, ← e5] at hk
    have s1 : (s + 1).toInt = s.toInt + 1 := i1 (by omega) (Int32.le_toInt _)
    by_cases hx : (c.1 (a + 3) s.toNatClampNeg).toInt = x.toInt
    · rw [if_neg (fun z => z hx)] at hf hk
      by_cases hy : (c.1 (a + 4) s.toNatClampNeg).toInt = y.toInt
      · rw [if_neg (fun z => z hy)] at hf hk
        by_cases hz : (c.1 (a + 5) s.toNatClampNeg).toInt = z.toInt
        · rw [if_neg (fun z => z hz)] at hf
          rw [if_pos hz] at hk
          cases hf
          cases hb : d_X10_readEvent_b233 82 x1 x2 x y z s m with
          | none => rw [hb] at hk; cases hk
          | some r =>
            rw [hb] at hk
            cases hk
            exact Or.inr ⟨_, _, rfl, rfl, Or.inr ⟨h0, by omega, hb⟩⟩
        · rw [if_pos hz] at hf
          rw [if_neg hz] at hk
          cases hf
          cases hk
          exact Or.inl ⟨_, _, rfl, rfl, rfl, by omega, by omega⟩
      · rw [if_pos hy] at hf hk
        cases hf
        cases hk
        exact Or.inl ⟨_, _, rfl, rfl, rfl, by omega, by omega⟩
    · rw [if_pos hx] at hf hk
      cases hf
      cases hk
      exact Or.inl ⟨_, _, rfl, rfl, rfl, by omega, by omega⟩
/-- a new event in the class's net -/
def aeM (a : Nat) (c : dc_M) (x y z : Int32) : dc_M := dc_wi (dc_wi (dc_wi (dc_wi (dc_wi (dc_wi (dc_wi c (a + 3) (c.1 a 1).toNatClampNeg x) (a + 4) (c.1 a 1).toNatClampNeg y) (a + 5) (c.1 a 1).toNatClampNeg z) (a + 6) (c.1 a 1).toNatClampNeg 0) (a + 7) (c.1 a 1).toNatClampNeg 0) (a + 8) (c.1 a 1).toNatClampNeg 1) a 1 (c.1 a 1 + 1)
theorem ae_eq {a : Nat} {c : dc_M} {x y z : Int32} (ha : a = 41 ∨ a = 52) (h : (c.1 a 1).toInt < 16) : d_X3_addEvent a x y z c = (c.1 a 1, aeM a c x y z) := by
  rcases ha with rfl | rfl
  · unfold d_X3_addEvent
    rw [if_pos h]
    rfl
  · unfold d_X3_addEvent
    rw [if_pos h]
    rfl
theorem ae_n {a : Nat} {c : dc_M} {x y z : Int32} {b k : Nat} (h1 : ¬ (b = a ∧ k = 1)) (h2 : ¬ (a + 3 ≤ b ∧ b ≤ a + 8 ∧ k = (c.1 a 1).toNatClampNeg)) : (aeM a c x y z).1 b k = c.1 b k := by
  unfold aeM
  rw [wi_k (by omega), wi_k (by omega), wi_k (by omega), wi_k (by omega), wi_k (by omega), wi_k (by omega), wi_k (by omega)]
theorem ae_v {a : Nat} {c : dc_M} {x y z : Int32} : (aeM a c x y z).1 (a + 3) (c.1 a 1).toNatClampNeg = x ∧ (aeM a c x y z).1 (a + 4) (c.1 a 1).toNatClampNeg = y ∧ (aeM a c x y z).1 (a + 5) (c.1 a 1).toNatClampNeg = z ∧ (aeM a c x y z).1 (a + 6) (c.1 a 1).toNatClampNeg = 0 ∧ (aeM a c x y z).1 (a + 7) (c.1 a 1).toNatClampNeg = 0 ∧ (aeM a c x y z).1 (a + 8) (c.1 a 1).toNatClampNeg = 1 := by
  unfold aeM
  refine ⟨?_, ?_, ?_, ?_, ?_, ?_⟩
  · rw [wi_k (by omega), wi_k (by omega), wi_k (by omega), wi_k (by omega), wi_k (by omega), wi_k (by omega)]
    exact wi_s
  · rw [wi_k (by omega), wi_k (by omega), wi_k (by omega), wi_k (by omega), wi_k (by omega)]
    exact wi_s
  · rw [wi_k (by omega), wi_k (by omega), wi_k (by omega), wi_k (by omega)]
    exact wi_s
  · rw [wi_k (by omega), wi_k (by omega), wi_k (by omega)]
    exact wi_s
  · rw [wi_k (by omega), wi_k (by omega)]
    exact wi_s
  · rw [wi_k (by omega)]
    exact wi_s
/-- a new event in the reference's lists -/
def neM (m : dc_M) (e x y z : Int32) : dc_M := dc_wi (dc_wi (dc_wi (dc_wi (dc_wi (dc_wi m 94 e.toNatClampNeg x) 95 e.toNatClampNeg y) 96 e.toNatClampNeg z) 97 e.toNatClampNeg 0) 98 e.toNatClampNeg 0) 82 24 (m.1 82 24 + 1)
theorem ne_n {m : dc_M} {e x y z : Int32} {b k : Nat} (h1 : ¬ (b = 82 ∧ k = 24)) (h2 : ¬ (94 ≤ b ∧ b ≤ 98 ∧ k = e.toNatClampNeg)) : (neM m e x y z).1 b k = m.1 b k := by
  unfold neM
  rw [wi_k (by omega), wi_k (by omega), wi_k (by omega), wi_k (by omega), wi_k (by omega), wi_k (by omega)]
theorem NT.ae {a : Nat} {F T : Int32} {c m : dc_M} {x y z : Int32} (h : NT a F T c m) (hE : (c.1 a 1).toInt < 16) (hx : 0 ≤ x.toInt ∧ x.toInt < (c.1 a 0).toInt) : NT a F T (aeM a c x y z) (neM m (c.1 a 1) x y z) := by
  obtain ⟨⟨w1, w2, w3, w4⟩, ⟨e1, e2, e3, e4⟩, s, ⟨p1, p2, p3, p4⟩, b⟩ := h
  have e2' : 0 ≤ (c.1 a 1).toInt := e2
  have hn := cl_n e2'
  have r : ∀ i k, ¬ (i = 0 ∧ k = 1) → ¬ (3 ≤ i ∧ i ≤ 8 ∧ k = (c.1 a 1).toNatClampNeg) → cn a (aeM a c x y z) i k = cn a c i k := fun i k h1 h2 => ae_n (by omega) (by omega)
  have r1 : cn a (aeM a c x y z) 0 1 = cn a c 0 1 + 1 := wi_s
  obtain ⟨r3, r4, r5, r6, r7, r8⟩ := ae_v (a := a) (c := c) (x := x) (y := y) (z := z)
  have r3 : cn a (aeM a c x y z) 3 (c.1 a 1).toNatClampNeg = x := r3
  have r4 : cn a (aeM a c x y z) 4 (c.1 a 1).toNatClampNeg = y := r4
  have r5 : cn a (aeM a c x y z) 5 (c.1 a 1).toNatClampNeg = z := r5
  have r6 : cn a (aeM a c x y z) 6 (c.1 a 1).toNatClampNeg = 0 := r6
  have r7 : cn a (aeM a c x y z) 7 (c.1 a 1).toNatClampNeg = 0 := r7
  have r8 : cn a (aeM a c x y z) 8 (c.1 a 1).toNatClampNeg = 1 := r8
  have q : ∀ i k, ¬ (2 ≤ i ∧ i ≤ 6 ∧ k = (c.1 a 1).toNatClampNeg) → mn (neM m (c.1 a 1) x y z) i k = mn m i k := fun i k h => ne_n (by omega) (by omega)
  have v2 : mn (neM m (c.1 a 1) x y z) 2 (c.1 a 1).toNatClampNeg = x := by
    show (neM m (c.1 a 1) x y z).1 94 _ = x
    unfold neM
    rw [wi_k (by omega), wi_k (by omega), wi_k (by omega), wi_k (by omega), wi_k (by omega)]
    exact wi_s
  have v3 : mn (neM m (c.1 a 1) x y z) 3 (c.1 a 1).toNatClampNeg = y := by
    show (neM m (c.1 a 1) x y z).1 95 _ = y
    unfold neM
    rw [wi_k (by omega), wi_k (by omega), wi_k (by omega), wi_k (by omega)]
    exact wi_s
  have v4 : mn (neM m (c.1 a 1) x y z) 4 (c.1 a 1).toNatClampNeg = z := by
    show (neM m (c.1 a 1) x y z).1 96 _ = z
    unfold neM
    rw [wi_k (by omega), wi_k (by omega), wi_k (by omega)]
    exact wi_s
  have v5 : mn (neM m (c.1 a 1) x y z) 5 (c.1 a 1).toNatClampNeg = 0 := by
    show (neM m (c.1 a 1) x y z).1 97 _ = 0
    unfold neM
    rw [wi_k (by omega), wi_k (by omega)]
    exact wi_s
  have v6 : mn (neM m (c.1 a 1) x y z) 6 (c.1 a 1).toNatClampNeg = 0 := by
    show (neM m (c.1 a 1) x y z).1 98 _ = 0
    unfold neM
    rw [wi_k (by omega)]
    exact wi_s
  have u24 : (neM m (c.1 a 1) x y z).1 82 24 = m.1 82 24 + 1 := wi_s
  have u : ∀ k, k ≠ 24 → (neM m (c.1 a 1) x y z).1 82 k = m.1 82 k := fun k h => ne_n (by omega) (by omega)
  unfold NT
  rw [u24, u 21 (by decide), u 30 (by decide), u 31 (by decide)]
  have hE' : (cn a c 0 1).toInt < 16 := hE
  have hn' : (((c.1 a 1).toNatClampNeg : Nat) : Int) = (cn a c 0 1).toInt := hn
  generalize (c.1 a 1).toNatClampNeg = E at *
  generalize cn a (aeM a c x y z) = n' at *
  generalize mn (neM m (c.1 a 1) x y z) = w' at *
  have j1 : (cn a c 0 1 + 1).toInt = (cn a c 0 1).toInt + 1 := i1 (by omega) (Int32.le_toInt _)
  have z0 := r 0 0 (by omega) (by omega)
  have z2 := r 0 2 (by omega) (by omega)
  have z13 := r 0 13 (by omega) (by omega)
  refine ⟨⟨by rw [z0]; exact w1, by rw [z0]; exact w2, by rw [z0]; exact w3, fun j hj => ?_⟩, ⟨by rw [r1, e1], by rw [r1, j1]; omega, by rw [r1, j1]; omega, fun j hj => ?_⟩, fun k h1 h2 => ?_, ⟨by rw [z2]; exact p1, by rw [z2]; exact p2, by rw [z2]; exact p3, by rw [z13]; exact p4⟩, fun p hp k hk => ?_⟩
  · rw [z0] at hj
    rw [r 1 j (by omega) (by omega), r 2 j (by omega) (by omega), q 0 j (by omega), q 1 j (by omega)]
    exact w4 j hj
  · rw [r1, j1] at hj
    rw [z2]
    by_cases hjE : j = E
    · subst hjE
      refine ⟨by rw [r3, v2], by rw [r4, v3], by rw [r5, v4], r8, by rw [r3, z0]; exact hx, fun k hk => ?_⟩
      obtain ⟨s1, s2⟩ := s j (by omega) (by omega)
      rw [v5, v6, r6, r7, b32_0, s1, s2]
      simp
    · rw [r 3 j (by omega) (by omega), r 4 j (by omega) (by omega), r 5 j (by omega) (by omega), r 6 j (by omega) (by omega), r 7 j (by omega) (by omega), r 8 j (by omega) (by omega), q 2 j (by omega), q 3 j (by omega), q 4 j (by omega), q 5 j (by omega), q 6 j (by omega), z0]
      exact e4 j (by omega)
  · rw [r1, j1] at h1
    exact s k (by omega) h2
  · rw [z2] at hp
    rw [r 9 p (by omega) (by omega), r 10 p (by omega) (by omega), r1, j1]
    obtain ⟨b1, b2⟩ := b p hp k hk
    by_cases hkE : k = E
    · subst hkE
      rw [decide_eq_false (show ¬ (k : Int) < (cn a c 0 1).toInt by omega), Bool.false_and] at b1 b2
      rw [b1, b2, r6, r7, b32_0, Bool.and_false]
      exact ⟨rfl, rfl⟩
    · rw [r 7 k (by omega) (by omega), r 6 k (by omega) (by omega), b1, b2]
      rw [show decide ((k : Int) < (cn a c 0 1).toInt + 1) = decide ((k : Int) < (cn a c 0 1).toInt) from decide_eq_decide.mpr (by omega)]
      exact ⟨rfl, rfl⟩
theorem XS.or {F e : Int32} {n : Nat → Nat → Int32} {k : Nat} (h0 : 0 ≤ e.toInt) (h1 : e.toInt < (n 0 1).toInt) (h2 : (n 0 1).toInt ≤ 16) (hk : (n 0 1).toInt ≤ k) (h3 : k < 32) (hF : b32 F k = false) : b32 (F ||| ((1 : Int32) <<< (e &&& 31))) k = false := by
  have := cl_n h0
  rw [b32_or, hF, b32_1 ⟨h0, by omega⟩ h3, decide_eq_false (by omega)]
  rfl
/-- one bit more on the side that takes -/
def stM (m : dc_M) (e v : Int32) : dc_M := dc_wi (dc_wi m 98 e.toNatClampNeg (m.1 98 e.toNatClampNeg ||| 0)) 97 e.toNatClampNeg (m.1 97 e.toNatClampNeg ||| v)
/-- one bit more on the side that feeds -/
def sfM (m : dc_M) (e v : Int32) : dc_M := dc_wi (dc_wi m 98 e.toNatClampNeg (m.1 98 e.toNatClampNeg ||| v)) 97 e.toNatClampNeg (m.1 97 e.toNatClampNeg ||| 0)
theorem or_0 {x : Int32} : x ||| 0 = x := b32_ext (fun k hk => by rw [b32_or, b32_0, Bool.or_false])
theorem NT.st {a : Nat} {F T : Int32} {c m : dc_M} {e : Int32} (h : NT a F T c m) (h0 : 0 ≤ e.toInt) (h1 : e.toInt < (c.1 a 1).toInt) : NT a F (T ||| ((1 : Int32) <<< (e &&& 31))) c (stM m e ((1 : Int32) <<< (m.1 82 30 &&& 31))) := by
  obtain ⟨w, ⟨e1, e2, e3, e4⟩, s, ⟨p1, p2, p3, p4⟩, b⟩ := h
  have hn := cl_n h0
  have h1' : e.toInt < (cn a c 0 1).toInt := h1
  have q : ∀ i k, ¬ (i = 5 ∧ k = e.toNatClampNeg) → mn (stM m e ((1 : Int32) <<< (m.1 82 30 &&& 31))) i k = mn m i k := fun i k h => by
    show (dc_wi (dc_wi m 98 e.toNatClampNeg (m.1 98 e.toNatClampNeg ||| 0)) 97 e.toNatClampNeg _).1 (92 + i) k = m.1 (92 + i) k
    rw [wi_k (by omega)]
    by_cases z : i = 6 ∧ k = e.toNatClampNeg
    · obtain ⟨rfl, rfl⟩ := z
      show (dc_wi m 98 e.toNatClampNeg _).1 98 e.toNatClampNeg = _
      rw [wi_s, or_0]
    · rw [wi_k (by omega)]
  have q5 : mn (stM m e ((1 : Int32) <<< (m.1 82 30 &&& 31))) 5 e.toNatClampNeg = mn m 5 e.toNatClampNeg ||| ((1 : Int32) <<< (m.1 82 30 &&& 31)) := wi_s
  have u : ∀ k, (stM m e ((1 : Int32) <<< (m.1 82 30 &&& 31))).1 82 k = m.1 82 k := fun k => by
    unfold stM
    rw [wi_k (by omega), wi_k (by omega)]
  unfold NT
  rw [u, u, u, u]
  generalize mn (stM m e ((1 : Int32) <<< (m.1 82 30 &&& 31))) = w' at *
  refine ⟨⟨w.1, w.2.1, w.2.2.1, fun j hj => by rw [q 0 j (by omega), q 1 j (by omega)]; exact w.2.2.2 j hj⟩, ⟨e1, e2, e3, fun j hj => ?_⟩, fun k g1 g2 => ⟨(s k g1 g2).1, XS.or h0 h1' e3 g1 g2 (s k g1 g2).2⟩, ⟨p1, p2, p3, p4⟩, b⟩
  obtain ⟨a1, a2, a3, a4, aw, a5⟩ := e4 j hj
  rw [q 2 j (by omega), q 3 j (by omega), q 4 j (by omega), q 6 j (by omega)]
  refine ⟨a1, a2, a3, a4, aw, fun k hk => ?_⟩
  obtain ⟨g1, g2, g3⟩ := a5 k hk
  refine ⟨?_, g2, g3⟩
  rw [b32_or, b32_1 (e := e) ⟨h0, by omega⟩ (show j < 32 by omega)]
  by_cases z : j = e.toNatClampNeg
  · subst z
    rw [q5, b32_or, g1, ← p1, b32_1 ⟨p2, by omega⟩ hk, decide_eq_true rfl]
    cases b32 (cn a c 6 e.toNatClampNeg) k <;> cases decide (k = (cn a c 0 2).toNatClampNeg) <;> cases b32 T e.toNatClampNeg <;> rfl
  · rw [q 5 j (by omega), g1, decide_eq_false z, Bool.or_false]
theorem NT.sf {a : Nat} {F T : Int32} {c m : dc_M} {e : Int32} (h : NT a F T c m) (h0 : 0 ≤ e.toInt) (h1 : e.toInt < (c.1 a 1).toInt) : NT a (F ||| ((1 : Int32) <<< (e &&& 31))) T c (sfM m e ((1 : Int32) <<< (m.1 82 30 &&& 31))) := by
  obtain ⟨w, ⟨e1, e2, e3, e4⟩, s, ⟨p1, p2, p3, p4⟩, b⟩ := h
  have hn := cl_n h0
  have h1' : e.toInt < (cn a c 0 1).toInt := h1
  have q : ∀ i k, ¬ (i = 6 ∧ k = e.toNatClampNeg) → mn (sfM m e ((1 : Int32) <<< (m.1 82 30 &&& 31))) i k = mn m i k := fun i k h => by
    show (dc_wi (dc_wi m 98 e.toNatClampNeg _) 97 e.toNatClampNeg (m.1 97 e.toNatClampNeg ||| 0)).1 (92 + i) k = m.1 (92 + i) k
    by_cases z : i = 5 ∧ k = e.toNatClampNeg
    · obtain ⟨rfl, rfl⟩ := z
      show (dc_wi _ 97 e.toNatClampNeg _).1 97 e.toNatClampNeg = _
      rw [wi_s, or_0]
    · rw [wi_k (by omega), wi_k (by omega)]
  have q6 : mn (sfM m e ((1 : Int32) <<< (m.1 82 30 &&& 31))) 6 e.toNatClampNeg = mn m 6 e.toNatClampNeg ||| ((1 : Int32) <<< (m.1 82 30 &&& 31)) := by
    show (dc_wi (dc_wi m 98 e.toNatClampNeg _) 97 e.toNatClampNeg _).1 98 e.toNatClampNeg = _
    rw [wi_k (by omega)]
    exact wi_s
  have u : ∀ k, (sfM m e ((1 : Int32) <<< (m.1 82 30 &&& 31))).1 82 k = m.1 82 k := fun k => by
    unfold sfM
    rw [wi_k (by omega), wi_k (by omega)]
  unfold NT
  rw [u, u, u, u]
  generalize mn (sfM m e ((1 : Int32) <<< (m.1 82 30 &&& 31))) = w' at *
  refine ⟨⟨w.1, w.2.1, w.2.2.1, fun j hj => by rw [q 0 j (by omega), q 1 j (by omega)]; exact w.2.2.2 j hj⟩, ⟨e1, e2, e3, fun j hj => ?_⟩, fun k g1 g2 => ⟨XS.or h0 h1' e3 g1 g2 (s k g1 g2).1, (s k g1 g2).2⟩, ⟨p1, p2, p3, p4⟩, b⟩
  obtain ⟨a1, a2, a3, a4, aw, a5⟩ := e4 j hj
  rw [q 2 j (by omega), q 3 j (by omega), q 4 j (by omega), q 5 j (by omega)]
  refine ⟨a1, a2, a3, a4, aw, fun k hk => ?_⟩
  obtain ⟨g1, g2, g3⟩ := a5 k hk
  refine ⟨g1, ?_, g3⟩
  rw [b32_or, b32_1 (e := e) ⟨h0, by omega⟩ (show j < 32 by omega)]
  by_cases z : j = e.toNatClampNeg
  · subst z
    rw [q6, b32_or, g2, ← p1, b32_1 ⟨p2, by omega⟩ hk, decide_eq_true rfl]
    cases b32 (cn a c 7 e.toNatClampNeg) k <;> cases decide (k = (cn a c 0 2).toNatClampNeg) <;> cases b32 F e.toNatClampNeg <;> rfl
  · rw [q 6 j (by omega), g2, decide_eq_false z, Bool.or_false]
