/-! the start -/
theorem Rt_s1 : (∀ j, j < 240 → dc_vi (p1_H.2.2 3) j = 0 ∧ dc_vi (p1_H.2.2 91) j = 0) := by decide +kernel
theorem Rt_s2 : dc_vi (p1_H.2.2 2) 1 = 0 ∧ dc_vi (p1_H.2.2 2) 2 = 0 ∧ dc_vi (p1_H.2.2 82) 13 = 0 ∧ dc_vi (p1_H.2.2 82) 14 = 0 ∧ dc_vr (p1_H.2.2 1) 7 = 41 ∧ dc_vr (p1_H.2.2 1) 8 = 52 := by decide +kernel
theorem Rt.st0 {g : ab_H} {E : Nat → ab_E} (h : ∀ a, 0 < a → a < 120 → g.2.2 a = E a) (k1 : ∀ j, j < 240 → dc_vi (E 3) j = 0 ∧ dc_vi (E 91) j = 0) (k2 : dc_vi (E 2) 1 = 0 ∧ dc_vi (E 2) 2 = 0 ∧ dc_vi (E 82) 13 = 0 ∧ dc_vi (E 82) 14 = 0 ∧ dc_vr (E 1) 7 = 41 ∧ dc_vr (E 1) 8 = 52) : Rt (dc_vw g) (dc_vw g) := by
  obtain ⟨s1, s2, s3, s4, s5, s6⟩ := k2
  have e1 : (dc_vw g).1 2 1 = 0 := by show dc_vi (g.2.2 2) 1 = 0; rw [h 2 (by decide) (by decide)]; exact s1
  have e2 : (dc_vw g).1 2 2 = 0 := by show dc_vi (g.2.2 2) 2 = 0; rw [h 2 (by decide) (by decide)]; exact s2
  have e3 : (dc_vw g).1 82 13 = 0 := by show dc_vi (g.2.2 82) 13 = 0; rw [h 82 (by decide) (by decide)]; exact s3
  have e4 : (dc_vw g).1 82 14 = 0 := by show dc_vi (g.2.2 82) 14 = 0; rw [h 82 (by decide) (by decide)]; exact s4
  have e5 : (dc_vw g).2.2.1 1 7 = 41 := by show dc_vr (g.2.2 1) 7 = 41; rw [h 1 (by decide) (by decide)]; exact s5
  have e6 : (dc_vw g).2.2.1 1 8 = 52 := by show dc_vr (g.2.2 1) 8 = 52; rw [h 1 (by decide) (by decide)]; exact s6
  refine ⟨⟨by rw [e1, e3], by rw [e1]; decide, by rw [e1]; decide, fun j hj => ?_⟩, by rw [e2, e4], Or.inl ⟨e5, e6⟩⟩
  obtain ⟨q1, q2⟩ := k1 j hj
  have e7 : (dc_vw g).1 3 j = 0 := by show dc_vi (g.2.2 3) j = 0; rw [h 3 (by decide) (by decide)]; exact q1
  have e8 : (dc_vw g).1 91 j = 0 := by show dc_vi (g.2.2 91) j = 0; rw [h 91 (by decide) (by decide)]; exact q2
  rw [e7, e8]
  decide
theorem Rt.st {g : ab_H} (h : ∀ a, 0 < a → a < 120 → g.2.2 a = p1_H.2.2 a) : Rt (dc_vw g) (dc_vw g) := Rt.st0 h Rt_s1 Rt_s2
/-! the start, with the net -/
theorem RN_s : dc_vi (p1_H.2.2 41) 0 = 0 ∧ dc_vi (p1_H.2.2 41) 1 = 0 ∧ dc_vi (p1_H.2.2 41) 2 = 0 ∧ dc_vi (p1_H.2.2 41) 13 = 0 ∧ dc_vi (p1_H.2.2 82) 0 = 0 ∧ dc_vi (p1_H.2.2 82) 3 = 0 ∧ dc_vi (p1_H.2.2 82) 10 = 0 ∧ dc_vi (p1_H.2.2 82) 11 = 0 ∧ dc_vi (p1_H.2.2 1) 11 = 0 ∧ dc_vr (p1_H.2.2 1) 7 = 41 := by decide +kernel
theorem RN.st0 {g : ab_H} {E : Nat → ab_E} (h : ∀ a, 0 < a → a < 120 → g.2.2 a = E a) (t : Rt (dc_vw g) (dc_vw g)) (k2 : dc_vi (E 41) 0 = 0 ∧ dc_vi (E 41) 1 = 0 ∧ dc_vi (E 41) 2 = 0 ∧ dc_vi (E 41) 13 = 0 ∧ dc_vi (E 82) 0 = 0 ∧ dc_vi (E 82) 3 = 0 ∧ dc_vi (E 82) 10 = 0 ∧ dc_vi (E 82) 11 = 0 ∧ dc_vi (E 1) 11 = 0 ∧ dc_vr (E 1) 7 = 41) : RN (dc_vw g) (dc_vw g) := by
  obtain ⟨s0, s1, s2, s3, s4, s5, s6, s7, s8, s9⟩ := k2
  have e0 : (dc_vw g).1 41 0 = 0 := by show dc_vi (g.2.2 41) 0 = 0; rw [h 41 (by decide) (by decide)]; exact s0
  have e1 : (dc_vw g).1 41 1 = 0 := by show dc_vi (g.2.2 41) 1 = 0; rw [h 41 (by decide) (by decide)]; exact s1
  have e2 : (dc_vw g).1 41 2 = 0 := by show dc_vi (g.2.2 41) 2 = 0; rw [h 41 (by decide) (by decide)]; exact s2
  have e3 : (dc_vw g).1 41 13 = 0 := by show dc_vi (g.2.2 41) 13 = 0; rw [h 41 (by decide) (by decide)]; exact s3
  have e4 : (dc_vw g).1 82 0 = 0 := by show dc_vi (g.2.2 82) 0 = 0; rw [h 82 (by decide) (by decide)]; exact s4
  have e5 : (dc_vw g).1 82 3 = 0 := by show dc_vi (g.2.2 82) 3 = 0; rw [h 82 (by decide) (by decide)]; exact s5
  have e6 : (dc_vw g).1 82 10 = 0 := by show dc_vi (g.2.2 82) 10 = 0; rw [h 82 (by decide) (by decide)]; exact s6
  have e7 : (dc_vw g).1 82 11 = 0 := by show dc_vi (g.2.2 82) 11 = 0; rw [h 82 (by decide) (by decide)]; exact s7
  have e8 : (dc_vw g).1 1 11 = 0 := by show dc_vi (g.2.2 1) 11 = 0; rw [h 1 (by decide) (by decide)]; exact s8
  have e9 : (dc_vw g).2.2.1 1 7 = 41 := by show dc_vr (g.2.2 1) 7 = 41; rw [h 1 (by decide) (by decide)]; exact s9
  refine ⟨t, ?_, fun q => (q e8).elim⟩
  rw [e9]
  have z : (0 : Int32).toInt = 0 := rfl
  refine ⟨⟨by rw [e0, e4], by rw [e0]; decide, fun j hj => ?_⟩, ⟨by rw [e1, e5], by rw [e1]; decide, fun j hj => ?_⟩, ⟨by rw [e2, e6], by rw [e2]; decide, by rw [e3, e7]⟩, fun p hp => ?_, fun k _ _ => (by rw [e3, b32_0]), fun j hj => (by rw [e0, z] at hj; omega)⟩
  · rw [e0, z] at hj; omega
  · rw [e1, z] at hj; omega
  · have hp : (p : Int) < ((dc_vw g).1 41 2).toInt := hp
    rw [e2, z] at hp
    omega
theorem RN.st {g : ab_H} (h : ∀ a, 0 < a → a < 120 → g.2.2 a = p1_H.2.2 a) : RN (dc_vw g) (dc_vw g) := RN.st0 h (Rt.st h) RN_s
/-! the start, with the run and the sheets -/
theorem RA_s : dc_vi (p1_H.2.2 37) 0 = 0 ∧ dc_vi (p1_H.2.2 82) 64 = 0 ∧ dc_vi (p1_H.2.2 115) 0 = 0 ∧ dc_vi (p1_H.2.2 82) 11 = 0 ∧ ∀ j, j < 4 → dc_vi (p1_H.2.2 (74 + 2 * j)) 0 = -1 ∧ dc_vi (p1_H.2.2 117) j = -4 := by decide +kernel
theorem RAw.st0 {g : ab_H} {E : Nat → ab_E} (h : ∀ a, 0 < a → a < 120 → g.2.2 a = E a) (N : RN (dc_vw g) (dc_vw g)) (k : dc_vi (E 37) 0 = 0 ∧ dc_vi (E 82) 64 = 0 ∧ dc_vi (E 115) 0 = 0 ∧ dc_vi (E 82) 11 = 0 ∧ ∀ j, j < 4 → dc_vi (E (74 + 2 * j)) 0 = -1 ∧ dc_vi (E 117) j = -4) : RAw (dc_vw g) (dc_vw g) := by
  obtain ⟨k1, k2, k3, k4, k5⟩ := k
  have e1 : (dc_vw g).1 37 0 = 0 := by show dc_vi (g.2.2 37) 0 = 0; rw [h 37 (by decide) (by decide)]; exact k1
  have e2 : (dc_vw g).1 82 64 = 0 := by show dc_vi (g.2.2 82) 64 = 0; rw [h 82 (by decide) (by decide)]; exact k2
  have e3 : (dc_vw g).1 115 0 = 0 := by show dc_vi (g.2.2 115) 0 = 0; rw [h 115 (by decide) (by decide)]; exact k3
  have e4 : (dc_vw g).1 82 11 = 0 := by show dc_vi (g.2.2 82) 11 = 0; rw [h 82 (by decide) (by decide)]; exact k4
  refine ⟨N, ⟨by rw [e1, e2], by rw [e1]; decide, by rw [e3, e4], fun j hj => ?_⟩, fun j hj => ?_⟩
  · rw [e1, show (0 : Int32).toInt = 0 from rfl] at hj
    omega
  · obtain ⟨a1, a2⟩ := k5 j hj
    have b1 : (dc_vw g).1 (74 + 2 * j) 0 = -1 := by show dc_vi (g.2.2 (74 + 2 * j)) 0 = -1; rw [h (74 + 2 * j) (by omega) (by omega)]; exact a1
    have b2 : (dc_vw g).1 117 j = -4 := by show dc_vi (g.2.2 117) j = -4; rw [h 117 (by omega) (by omega)]; exact a2
    exact Or.inl ⟨by rw [b1]; rfl, b2⟩
theorem RAw.st {g : ab_H} (h : ∀ a, 0 < a → a < 120 → g.2.2 a = p1_H.2.2 a) : RAw (dc_vw g) (dc_vw g) := RAw.st0 h (RN.st h) RA_s
/-! the start: nothing is explored -/
theorem RB_s : dc_vi (p1_H.2.2 1) 11 = 0 := by decide +kernel
theorem RBw.st {g : ab_H} (h : ∀ a, 0 < a → a < 120 → g.2.2 a = p1_H.2.2 a) : RBw (dc_vw g) (dc_vw g) := by
  have e : (dc_vw g).1 1 11 = 0 := by show dc_vi (g.2.2 1) 11 = 0; rw [h 1 (by decide) (by decide)]; exact RB_s
  exact ⟨RAw.st h, fun q => absurd e q⟩
