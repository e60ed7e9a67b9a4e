/-! ===== the net that stands, on both sides ===== -/
def KDb (a : Nat) (c : dc_M) : Prop := ∀ j : Nat, (j : Int) < (c.1 a 0).toInt → 0 ≤ (c.1 (a + 2) j).toInt
def NR (a : Nat) (c m : dc_M) : Prop := (c.1 a 0 = m.1 82 0 ∧ (0 ≤ (c.1 a 0).toInt ∧ (c.1 a 0).toInt ≤ 6) ∧ ∀ j : Nat, (j : Int) < (c.1 a 0).toInt → c.1 (a + 1) j = m.1 83 j ∧ c.1 (a + 2) j = m.1 84 j) ∧ (c.1 a 1 = m.1 82 3 ∧ (0 ≤ (c.1 a 1).toInt ∧ (c.1 a 1).toInt ≤ 16) ∧ ∀ k : Nat, (k : Int) < (c.1 a 1).toInt → c.1 (a + 3) k = m.1 85 k ∧ c.1 (a + 4) k = m.1 86 k ∧ c.1 (a + 5) k = m.1 87 k ∧ c.1 (a + 6) k = m.1 88 k ∧ c.1 (a + 7) k = m.1 89 k ∧ c.1 (a + 8) k = m.1 90 k ∧ (0 ≤ (c.1 (a + 3) k).toInt ∧ (c.1 (a + 3) k).toInt < (c.1 a 0).toInt) ∧ ∀ b : Nat, b < 32 → (c.1 a 2).toInt ≤ b → b32 (c.1 (a + 6) k) b = false ∧ b32 (c.1 (a + 7) k) b = false) ∧ (c.1 a 2 = m.1 82 10 ∧ (0 ≤ (c.1 a 2).toInt ∧ (c.1 a 2).toInt ≤ 20) ∧ c.1 a 13 = m.1 82 11) ∧ XB (cn a c) ∧ XQb (c.1 a 13) ∧ KDb a c
theorem NR.nl {a : Nat} {c m : dc_M} (N : NR a c m) : NL a c m := ⟨N.2.1.1, N.2.1.2.1, fun k hk => by have q := N.2.1.2.2 k hk; exact ⟨q.2.2.2.1, q.2.2.2.2.1⟩, N.2.2.1.2.2⟩
theorem NR.nw {a : Nat} {c m : dc_M} (N : NR a c m) (hr : ∀ k, k < 16 → 0 ≤ (m.1 86 k).toInt ∧ (m.1 86 k).toInt ≤ 1) : NW2 a c m := by
  refine ⟨⟨N.1.1, N.1.2.1.1, N.1.2.1.2⟩, fun k hk => ?_⟩
  have q := N.2.1.2.2 k hk
  have e := N.2.1.2.1.2
  have r := hr k (by omega)
  refine ⟨q.1, q.2.1, q.2.2.2.2.2.2.1, ?_⟩
  rw [q.2.1]
  rcases (show (m.1 86 k).toInt = 0 ∨ (m.1 86 k).toInt = 1 by omega) with g | g
  · exact Or.inl (Int32.toInt_inj.mp g)
  · exact Or.inr (Int32.toInt_inj.mp g)
theorem NR.eq {a : Nat} {c m c' m' : dc_M} (N : NR a c m) (e1 : ∀ i, i ≤ 10 → c'.1 (a + i) = c.1 (a + i)) (e2 : ∀ k, k = 0 ∨ k = 3 ∨ k = 10 ∨ k = 11 → m'.1 82 k = m.1 82 k) (e3 : ∀ b, 83 ≤ b → b ≤ 90 → m'.1 b = m.1 b) : NR a c' m' := by
  have e0 : c'.1 a = c.1 a := e1 0 (by decide)
  have en : cn a c' = fun i k => if i ≤ 10 then cn a c i k else c'.1 (a + i) k := by
    funext i k
    by_cases h : i ≤ 10
    · rw [if_pos h]
      show c'.1 (a + i) k = c.1 (a + i) k
      rw [e1 i h]
    · rw [if_neg h]
      rfl
  have eb : XB (cn a c') := by
    have b := N.2.2.2.1
    unfold XB at b ⊢
    rw [en]
    exact b
  refine ⟨?_, ?_, ?_, eb, by rw [e0]; exact N.2.2.2.2.1, by unfold KDb; rw [e0, e1 2 (by decide)]; exact N.2.2.2.2.2⟩
  · rw [e0, e1 1 (by decide), e1 2 (by decide), e2 0 (by omega), e3 83 (by decide) (by decide), e3 84 (by decide) (by decide)]
    exact N.1
  · rw [e0, e1 3 (by decide), e1 4 (by decide), e1 5 (by decide), e1 6 (by decide), e1 7 (by decide), e1 8 (by decide), e2 3 (by omega), e3 85 (by decide) (by decide), e3 86 (by decide) (by decide), e3 87 (by decide) (by decide), e3 88 (by decide) (by decide), e3 89 (by decide) (by decide), e3 90 (by decide) (by decide)]
    exact N.2.1
  · rw [e0, e2 10 (by omega), e2 11 (by omega)]
    exact N.2.2.1
/-- a text that is taken gives both sides the same net -/
theorem NR.text {p : Int} {a : Nat} {K : Int32 × Int32} {c mm : dc_M} {z : Int32 × dc_M} (l : LV p a K 0 0 c mm) (h : d_X10_text_b55 82 mm = some z) : NR a c z.2 := by
  obtain ⟨t1, t2, t3, t4, t5, t6⟩ := tc_55 l.1.n2 h
  obtain ⟨-, -, u0, u3, u10, u11, -, -⟩ := t3
  obtain ⟨⟨w1, w2, w3, w4⟩, ⟨e1, e2, e3, e4⟩, s, ⟨p1, p2, p3, p4⟩, b⟩ := l.2.2.1
  have w3' : (c.1 a 0).toInt ≤ 6 := w3
  have e3' : (c.1 a 1).toInt ≤ 16 := e3
  refine ⟨⟨?_, ⟨w2, w3⟩, fun j hj => ?_⟩, ⟨?_, ⟨e2, e3⟩, fun k hk => ?_⟩, ⟨?_, ⟨p2, p3⟩, ?_⟩, b, p4.2, fun j hj => (w4 j hj).2.2⟩
  · rw [u0]; exact w1
  · rw [t4 83 j (by decide) (by decide) (by omega), t4 84 j (by decide) (by decide) (by omega)]
    exact ⟨(w4 j hj).1, (w4 j hj).2.1⟩
  · rw [u3]; exact e1
  · obtain ⟨a1, a2, a3, a4, aw, a5⟩ := e4 k hk
    rw [t5 85 k (by decide) (by decide) (by omega), t5 86 k (by decide) (by decide) (by omega), t5 87 k (by decide) (by decide) (by omega), t5 88 k (by decide) (by decide) (by omega), t5 89 k (by decide) (by decide) (by omega), t6 k (by omega)]
    refine ⟨a1, a2, a3, ?_, ?_, a4, aw, fun j hj hp => (a5 j hj).2.2 hp⟩
    · refine b32_ext (fun j hj => ?_)
      have q := (a5 j hj).1
      rw [b32_0, Bool.and_false, Bool.or_false] at q
      exact q.symm
    · refine b32_ext (fun j hj => ?_)
      have q := (a5 j hj).2.1
      rw [b32_0, Bool.and_false, Bool.or_false] at q
      exact q.symm
  · rw [u10]; exact p1
  · rw [u11]; exact p4.1
