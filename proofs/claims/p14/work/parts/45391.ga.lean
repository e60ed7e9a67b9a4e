/-! ===== the beginning of calls whose contracts know how great the net is ===== -/
section GA
variable {z L : Nat} {xs : Nat → Int32} {h : ab_H}
theorem gd_fv {c k ci : Nat} {fs : List sx_F} {lo hi : Int} {l : List Nat} (hh : sx_h sx_SP z L xs h) (hc : sx_cel sx_SP c = some (.inr (ci, fs))) (hk : fs[k]? = some (0, lo, hi, l)) (h125 : k < 125) : ∃ x : Int32, sx_fd h (c * 128 + k) = some (.int x) ∧ lo ≤ x.toInt ∧ x.toInt ≤ hi := by
  obtain ⟨ws, r, hl, hv⟩ := gd_o hc hh
  have hkl : k < ws.length := by rw [← hl]; exact (List.getElem?_eq_some_iff.mp hk).1
  obtain ⟨x, e, h1, h2⟩ := hv k _ _ hk (List.getElem?_eq_getElem hkl)
  refine ⟨x, ?_, h1, h2⟩
  rw [sx_fd_o r (by omega)]
  exact (List.getElem?_eq_getElem hkl).trans (congrArg some e)
theorem gm_f2 {a b : Nat} (g : gm a b h) : ∀ q ∈ ([(135, .inr (1, a)), (136, .inr (1, b))] : List (Nat × sx_V)), ∃ w, sx_fd h q.1 = some w ∧ ∀ β : Nat → Int, sx_v β q.2 w := fun q hq => by
  rcases List.mem_cons.mp hq with rfl | hq
  · exact ⟨_, g.1, fun _ => rfl⟩
  rcases List.mem_cons.mp hq with rfl | hq
  · exact ⟨_, g.2, fun _ => rfl⟩
  cases hq
theorem ga_n : ∀ q ∈ ([] : List (Nat × sx_V)), ∃ w, sx_fd h q.1 = some w ∧ ∀ β : Nat → Int, sx_v β q.2 w := fun q hq => by cases hq
theorem ga2 {c k1 k2 k3 : Nat} {fs : List (Nat × sx_V)} (x1 x2 : Int32) (hh : sx_h sx_SP z L xs h) (hf : ∀ q ∈ fs, ∃ w, sx_fd h q.1 = some w ∧ ∀ β : Nat → Int, sx_v β q.2 w) (f1 : ∃ x : Int32, sx_fd h k1 = some (.int x) ∧ 0 ≤ x.toInt ∧ x.toInt ≤ 6) (f2 : ∃ x : Int32, sx_fd h k2 = some (.int x) ∧ 0 ≤ x.toInt ∧ x.toInt ≤ 16) (f3 : ∃ x : Int32, sx_fd h k3 = some (.int x) ∧ 0 ≤ x.toInt ∧ x.toInt ≤ 20) : sx_at sx_SP z L xs ([], [.inr (1, c), .inl (0, (0, [(1, 1)])), .inl (0, (0, [(2, 1)]))], fs ++ [(k1, .inl (0, (0, [(3, 1)]))), (k2, .inl (0, (0, [(4, 1)]))), (k3, .inl (0, (0, [(5, 1)])))], [], [(1, (-2147483648), 2147483647), (2, (-2147483648), 2147483647), (3, 0, 6), (4, 0, 16), (5, 0, 20)], [], 6) (fun s => (([x1, x2, f1.choose, f2.choose, f3.choose] : List Int32).getD (s - 1) 0).toInt) [] [.ref c, .int x1, .int x2] h := by
  refine ⟨fun q hq => (by cases hq), ⟨rfl, ?_, ?_, trivial⟩, fun q hq => ?_, fun q hq => (by cases hq), fun q hq => ?_, fun q hq => (by cases hq), hh⟩
  · show x1.toInt = sx_ev _ (sx_Y 1)
    rw [sx_ev_Y]
    rfl
  · show x2.toInt = sx_ev _ (sx_Y 2)
    rw [sx_ev_Y]
    rfl
  · rcases List.mem_append.mp hq with hq | hq
    · obtain ⟨w, a, b⟩ := hf q hq
      exact ⟨w, a, b _⟩
    · rcases List.mem_cons.mp hq with rfl | hq
      · refine ⟨_, f1.choose_spec.1, ?_⟩
        show f1.choose.toInt = sx_ev _ (sx_Y 3)
        rw [sx_ev_Y]
        rfl
      rcases List.mem_cons.mp hq with rfl | hq
      · refine ⟨_, f2.choose_spec.1, ?_⟩
        show f2.choose.toInt = sx_ev _ (sx_Y 4)
        rw [sx_ev_Y]
        rfl
      rcases List.mem_cons.mp hq with rfl | hq
      · refine ⟨_, f3.choose_spec.1, ?_⟩
        show f3.choose.toInt = sx_ev _ (sx_Y 5)
        rw [sx_ev_Y]
        rfl
      cases hq
  · rcases List.mem_cons.mp hq with rfl | hq
    · exact ⟨Int32.le_toInt x1, by have := Int32.toInt_lt x1; show x1.toInt ≤ 2147483647; omega⟩
    rcases List.mem_cons.mp hq with rfl | hq
    · exact ⟨Int32.le_toInt x2, by have := Int32.toInt_lt x2; show x2.toInt ≤ 2147483647; omega⟩
    rcases List.mem_cons.mp hq with rfl | hq
    · exact f1.choose_spec.2
    rcases List.mem_cons.mp hq with rfl | hq
    · exact f2.choose_spec.2
    rcases List.mem_cons.mp hq with rfl | hq
    · exact f3.choose_spec.2
    cases hq
theorem ga1 {c k1 k2 k3 : Nat} {fs : List (Nat × sx_V)} (x1 : Int32) (hh : sx_h sx_SP z L xs h) (hf : ∀ q ∈ fs, ∃ w, sx_fd h q.1 = some w ∧ ∀ β : Nat → Int, sx_v β q.2 w) (f1 : ∃ x : Int32, sx_fd h k1 = some (.int x) ∧ 0 ≤ x.toInt ∧ x.toInt ≤ 6) (f2 : ∃ x : Int32, sx_fd h k2 = some (.int x) ∧ 0 ≤ x.toInt ∧ x.toInt ≤ 16) (f3 : ∃ x : Int32, sx_fd h k3 = some (.int x) ∧ 0 ≤ x.toInt ∧ x.toInt ≤ 20) : sx_at sx_SP z L xs ([], [.inr (1, c), .inl (0, (0, [(1, 1)]))], fs ++ [(k1, .inl (0, (0, [(2, 1)]))), (k2, .inl (0, (0, [(3, 1)]))), (k3, .inl (0, (0, [(4, 1)])))], [], [(1, (-2147483648), 2147483647), (2, 0, 6), (3, 0, 16), (4, 0, 20)], [], 5) (fun s => (([x1, f1.choose, f2.choose, f3.choose] : List Int32).getD (s - 1) 0).toInt) [] [.ref c, .int x1] h := by
  refine ⟨fun q hq => (by cases hq), ⟨rfl, ?_, trivial⟩, fun q hq => ?_, fun q hq => (by cases hq), fun q hq => ?_, fun q hq => (by cases hq), hh⟩
  · show x1.toInt = sx_ev _ (sx_Y 1)
    rw [sx_ev_Y]
    rfl
  · rcases List.mem_append.mp hq with hq | hq
    · obtain ⟨w, a, b⟩ := hf q hq
      exact ⟨w, a, b _⟩
    · rcases List.mem_cons.mp hq with rfl | hq
      · refine ⟨_, f1.choose_spec.1, ?_⟩
        show f1.choose.toInt = sx_ev _ (sx_Y 2)
        rw [sx_ev_Y]
        rfl
      rcases List.mem_cons.mp hq with rfl | hq
      · refine ⟨_, f2.choose_spec.1, ?_⟩
        show f2.choose.toInt = sx_ev _ (sx_Y 3)
        rw [sx_ev_Y]
        rfl
      rcases List.mem_cons.mp hq with rfl | hq
      · refine ⟨_, f3.choose_spec.1, ?_⟩
        show f3.choose.toInt = sx_ev _ (sx_Y 4)
        rw [sx_ev_Y]
        rfl
      cases hq
  · rcases List.mem_cons.mp hq with rfl | hq
    · exact ⟨Int32.le_toInt x1, by have := Int32.toInt_lt x1; show x1.toInt ≤ 2147483647; omega⟩
    rcases List.mem_cons.mp hq with rfl | hq
    · exact f1.choose_spec.2
    rcases List.mem_cons.mp hq with rfl | hq
    · exact f2.choose_spec.2
    rcases List.mem_cons.mp hq with rfl | hq
    · exact f3.choose_spec.2
    cases hq
end GA
