/-! ===== tokens: the class's reader (cells 2, 3) in a memory c, the reference's (cells 82, 91) in a memory m ===== -/
theorem wi_s {m : dc_M} {a k : Nat} {v : Int32} : (dc_wi m a k v).1 a k = v := if_pos ⟨rfl, rfl⟩
theorem wi_k {m : dc_M} {a k b j : Nat} {v : Int32} (h : ¬ (b = a ∧ j = k)) : (dc_wi m a k v).1 b j = m.1 b j := if_neg h
theorem wi_2 {m : dc_M} {a k : Nat} {v : Int32} : (dc_wi m a k v).2 = m.2 := rfl
/-- the tapes -/
def tp (c m : dc_M) : Prop := c.1 2 1 = m.1 82 13 ∧ 0 ≤ (c.1 2 1).toInt ∧ (c.1 2 1).toInt ≤ 240 ∧ ∀ j, j < 240 → (-128 ≤ (c.1 3 j).toInt ∧ (c.1 3 j).toInt ≤ 127) ∧ (m.1 91 j).toInt = if 0 ≤ (c.1 3 j).toInt then (c.1 3 j).toInt else (c.1 3 j).toInt + 256
/-- the value of a name's first letters -/
def nv (t : Nat → Int32) (a : Nat) : Nat → Int
  | 0 => 0
  | k + 1 => if k < 5 then 32 * nv t a k + (t (a + k)).toInt - 96 else -1
def sml (x : Int32) : Prop := 97 ≤ x.toInt ∧ x.toInt ≤ 122
def fig (x : Int32) : Prop := 48 ≤ x.toInt ∧ x.toInt ≤ 57
/-- no fault so far, the same place -/
def nf (c m : dc_M) : Prop := c.1 2 2 = 0 ∧ m.1 82 15 = 0 ∧ c.1 2 4 = m.1 82 17 ∧ 0 ≤ (c.1 2 4).toInt ∧ (c.1 2 4).toInt ≤ (c.1 2 1).toInt
/-- the token at hand -/
def tk (c m : dc_M) : Prop := nf c m ∧ c.1 2 6 = m.1 82 18 ∧ c.1 2 5 = m.1 82 19 ∧ 0 ≤ (c.1 2 6).toInt ∧ (c.1 2 6).toInt ≤ (c.1 2 4).toInt ∧
  (((c.1 2 5).toInt = 0) ∨
   ((c.1 2 5).toInt = 1 ∧ (c.1 2 6).toInt < (c.1 2 4).toInt ∧ (∀ j : Nat, (c.1 2 6).toInt ≤ j → (j : Int) < (c.1 2 4).toInt → sml (c.1 3 j)) ∧ (m.1 82 20).toInt = nv (c.1 3) (c.1 2 6).toNatClampNeg ((c.1 2 4).toNatClampNeg - (c.1 2 6).toNatClampNeg) ∧ c.1 2 7 = c.1 3 (c.1 2 6).toNatClampNeg) ∨
   ((c.1 2 5).toInt = 2 ∧ fig (c.1 2 7) ∧ (m.1 82 20).toInt = (c.1 2 7).toInt - 48) ∨
   ((c.1 2 5).toInt = 3 ∧ (0 ≤ (c.1 2 7).toInt ∧ (c.1 2 7).toInt ≤ 127) ∧ m.1 82 20 = c.1 2 7))
/-- the same fault -/
def ft (c m : dc_M) : Prop := 0 < (c.1 2 2).toInt ∧ c.1 2 2 = m.1 82 15 ∧ c.1 2 3 = m.1 82 16
/-- what reading a token leaves alone -/
def fc (c c' : dc_M) : Prop := (∀ a k, ¬ (a = 2 ∧ 2 ≤ k ∧ k ≤ 7) → c'.1 a k = c.1 a k) ∧ c'.2 = c.2
def fm (m m' : dc_M) : Prop := (∀ a k, ¬ (a = 82 ∧ 15 ≤ k ∧ k ≤ 20) → m'.1 a k = m.1 a k) ∧ m'.2 = m.2
theorem fc.rf {c : dc_M} : fc c c := ⟨fun _ _ _ => rfl, rfl⟩
theorem fm.rf {m : dc_M} : fm m m := ⟨fun _ _ _ => rfl, rfl⟩
theorem fc.tr {a b c : dc_M} (x : fc a b) (y : fc b c) : fc a c := ⟨fun p k h => (y.1 p k h).trans (x.1 p k h), y.2.trans x.2⟩
theorem fm.tr {a b c : dc_M} (x : fm a b) (y : fm b c) : fm a c := ⟨fun p k h => (y.1 p k h).trans (x.1 p k h), y.2.trans x.2⟩
theorem fc.w {c c' : dc_M} {k : Nat} {v : Int32} (x : fc c c') (h : 2 ≤ k ∧ k ≤ 7) : fc c (dc_wi c' 2 k v) := ⟨fun a j hn => (wi_k (by omega)).trans (x.1 a j hn), x.2⟩
theorem fm.w {m m' : dc_M} {k : Nat} {v : Int32} (x : fm m m') (h : 15 ≤ k ∧ k ≤ 20) : fm m (dc_wi m' 82 k v) := ⟨fun a j hn => (wi_k (by omega)).trans (x.1 a j hn), x.2⟩
theorem tp.fr {c m c' m' : dc_M} (t : tp c m) (x : fc c c') (y : fm m m') : tp c' m' := by
  obtain ⟨t1, t2, t3, t4⟩ := t
  have e1 := x.1 2 1 (by omega)
  have e2 := y.1 82 13 (by omega)
  refine ⟨by rw [e1, e2]; exact t1, by rw [e1]; exact t2, by rw [e1]; exact t3, fun j hj => ?_⟩
  rw [x.1 3 j (by omega), y.1 91 j (by omega)]
  exact t4 j hj
/-! bytes -/
theorem is_sml {x : Int32} {m : dc_M} : (d_X4_isSmallLetter x m).toInt = 0 ↔ ¬ sml x := by
  unfold d_X4_isSmallLetter sml
  by_cases h1 : x.toInt < 97
  · rw [if_pos h1]; exact ⟨fun _ => by omega, fun _ => rfl⟩
  · rw [if_neg h1]
    by_cases h2 : 122 < x.toInt
    · rw [if_pos h2]; exact ⟨fun _ => by omega, fun _ => rfl⟩
    · rw [if_neg h2]; exact ⟨fun q => absurd q (by decide), fun q => absurd (show 97 ≤ x.toInt ∧ x.toInt ≤ 122 by omega) q⟩
theorem is_fig {x : Int32} {m : dc_M} : (d_X4_isFigure x m).toInt = 0 ↔ ¬ fig x := by
  unfold d_X4_isFigure fig
  by_cases h1 : x.toInt < 48
  · rw [if_pos h1]; exact ⟨fun _ => by omega, fun _ => rfl⟩
  · rw [if_neg h1]
    by_cases h2 : 57 < x.toInt
    · rw [if_pos h2]; exact ⟨fun _ => by omega, fun _ => rfl⟩
    · rw [if_neg h2]; exact ⟨fun q => absurd q (by decide), fun q => absurd (show 48 ≤ x.toInt ∧ x.toInt ≤ 57 by omega) q⟩
theorem in_0 {x : Int32} {a b : Int} {y w : Int64} {m : dc_M} (hy : y.toInt = a) (hw : w.toInt = b) : (d_X10_in (Int32.toInt64 x) y w m).toInt = 0 ↔ ¬ (a ≤ x.toInt ∧ x.toInt ≤ b) := by
  rw [di_in, di_il, hy, hw]
  exact di_ine
theorem cl_n {x : Int32} (h : 0 ≤ x.toInt) : ((x.toNatClampNeg : Nat) : Int) = x.toInt := by
  show ((x.toInt.toNat : Nat) : Int) = x.toInt
  omega
theorem i1 {x : Int32} (h : x.toInt < 2147483647) (h0 : -2147483648 ≤ x.toInt) : (x + 1).toInt = x.toInt + 1 := by
  rw [Int32.toInt_add, show (1 : Int32).toInt = 1 from rfl, sx_bm (by omega) (by omega)]
/-- the reference's byte at a place below the length -/
theorem ba_in {c m : dc_M} (t : tp c m) {p : Int32} (h0 : 0 ≤ p.toInt) (h1 : p.toInt < (c.1 2 1).toInt) : (d_X10_byteAt 82 p m).toInt = if 0 ≤ (c.1 3 p.toNatClampNeg).toInt then (c.1 3 p.toNatClampNeg).toInt else (c.1 3 p.toNatClampNeg).toInt + 256 := by
  obtain ⟨t1, t2, t3, t4⟩ := t
  unfold d_X10_byteAt
  rw [if_neg (by rw [← t1]; omega), show 82 + 9 = 91 from rfl]
  have := cl_n h0
  exact (t4 p.toNatClampNeg (by omega)).2
theorem ba_out {c m : dc_M} (t : tp c m) {p : Int32} (h1 : (c.1 2 1).toInt ≤ p.toInt) : (d_X10_byteAt 82 p m).toInt = -4 := by
  unfold d_X10_byteAt
  rw [if_pos (by rw [← t.1]; exact h1)]
  rfl
theorem tp.b {c m : dc_M} (t : tp c m) {p : Int32} (h0 : 0 ≤ p.toInt) (h1 : p.toInt < (c.1 2 1).toInt) : -128 ≤ (c.1 3 p.toNatClampNeg).toInt ∧ (c.1 3 p.toNatClampNeg).toInt ≤ 127 := by
  have := cl_n h0
  have := t.2.2.1
  exact (t.2.2.2 p.toNatClampNeg (by omega)).1
