/-! ===== the model's cells, read out of the words and put back ===== -/
def nw_fs : List sx_F := match sx_cel sx_SP 82 with
  | some (.inr (_, fs)) => fs
  | _ => []
theorem nw_c82 : sx_cel sx_SP 82 = some (.inr (10, nw_fs)) := rfl
def nw_F (ws : List Value) : Prop := nw_fs.length = ws.length ∧ ∀ (k : Nat) (f : sx_F) (w : Value), nw_fs[k]? = some f → ws[k]? = some w → sx_fv f w
section NW
variable {z L : Nat} {xs : Nat → Int32} {h h' : ab_H} {ws : List Value} {k : Nat}
theorem nw_ws (hh : sx_h sx_SP z L xs h) : ∃ ws, ab_rd h 82 = some (.inr (10, ws)) ∧ nw_F ws := by
  obtain ⟨r1, r2, -⟩ := sx_cel_ok nw_c82 hh
  obtain ⟨ws, ew, hl, hv⟩ := sx_c_o r2
  rw [ew] at r1
  exact ⟨ws, r1, hl, hv⟩
theorem nw_of (hh : sx_h sx_SP z L xs h) (hr : ab_rd h 82 = some (.inr (10, ws))) : nw_F ws := by
  obtain ⟨ws', r1, r2⟩ := nw_ws hh
  rw [hr] at r1
  cases r1
  exact r2
theorem nw_F.i (g : nw_F ws) {a b : Int} {l : List Nat} (hk : nw_fs[k]? = some (0, a, b, l)) : ∃ x : Int32, ws[k]? = some (.int x) ∧ a ≤ x.toInt ∧ x.toInt ≤ b := by
  have hkl : k < ws.length := by rw [← g.1]; exact (List.getElem?_eq_some_iff.mp hk).1
  obtain ⟨x, e, h1, h2⟩ := g.2 k _ _ hk (List.getElem?_eq_getElem hkl)
  exact ⟨x, (List.getElem?_eq_getElem hkl).trans (congrArg some e), h1, h2⟩
theorem nw_F.r (g : nw_F ws) {a b : Int} {c : Nat} (hk : nw_fs[k]? = some (2, a, b, [c])) : ws[k]? = some (.ref c) := by
  have hkl : k < ws.length := by rw [← g.1]; exact (List.getElem?_eq_some_iff.mp hk).1
  obtain ⟨x, e, h1⟩ := g.2 k _ _ hk (List.getElem?_eq_getElem hkl)
  have h1 : x ∈ [c] := h1
  rw [List.mem_singleton] at h1
  subst h1
  exact (List.getElem?_eq_getElem hkl).trans (congrArg some e)
theorem nw_F.n (g : nw_F ws) {b : Int} {l : List Nat} (hk : nw_fs[k]? = some (0, 0, b, l)) : ∃ n : Nat, ws[k]? = some (.int (Int32.ofNat n)) ∧ (n : Int) ≤ b := by
  obtain ⟨x, h1, h2, h3⟩ := g.i hk
  refine ⟨x.toInt.toNat, ?_, by omega⟩
  rw [← ig_ofn h2]
  exact h1
theorem nw_a {a t m : Nat} {ps : List (Int × Int)} {cs : List Nat} (hc : sx_cel sx_SP a = some (.inl (t, m, ps, cs))) (h2 : t ≠ 2) (h4 : t ≠ 4) (hh : sx_h sx_SP z L xs h) : ∃ f : Nat → Int32, ab_rd h a = some (.inl (t, m, .inl f)) ∧ ∀ j, j < m → sx_pc ps (f j).toInt := by
  obtain ⟨r1, r2, -⟩ := sx_cel_ok hc hh
  obtain ⟨f, ef, hf⟩ := sx_c_i r2 h2 h4
  rw [ef] at r1
  exact ⟨f, r1, hf⟩
theorem nw_l {a m : Nat} {ps : List (Int × Int)} {cs : List Nat} (hc : sx_cel sx_SP a = some (.inl (2, m, ps, cs))) (hh : sx_h sx_SP z L xs h) : ∃ f : Nat → Int64, ab_rd h a = some (.inl (2, m, .inr (.inl f))) := by
  obtain ⟨r1, r2, -⟩ := sx_cel_ok hc hh
  obtain ⟨f, ef⟩ := sx_c_l r2
  rw [ef] at r1
  exact ⟨f, r1⟩
theorem nw_pc {a b x : Int} (g : sx_pc [(a, b)] x) : a ≤ x ∧ x ≤ b := by
  obtain ⟨p, hp, h1⟩ := g
  rw [List.mem_singleton] at hp
  subst hp
  exact h1
theorem nw_cp {a b x : Int} (g : a ≤ x ∧ x ≤ b) : sx_pc [(a, b)] x := ⟨_, List.mem_singleton.mpr rfl, g⟩
theorem nw_32 (x : Int32) : sx_pc [((-2147483648), 2147483647)] x.toInt := nw_cp ⟨x.le_toInt, by have := x.toInt_lt; omega⟩
/-- a heap that differs at some cells alone, which are as they must be -/
theorem nw_back (hh : sx_h sx_SP z L xs h) (l : List Nat) (h1 : h'.1 = h.1) (h2 : h'.2.1 = h.2.1) (h0 : 0 ∉ l) (hE : ∀ a, a ∉ l → h'.2.2 a = h.2.2 a) (hc : ∀ a, a ∈ l → ∀ c, sx_cel sx_SP a = some c → sx_c c (h'.2.2 a)) : sx_h sx_SP z L xs h' := by
  refine ⟨h1.trans hh.1, h2.trans hh.2.1, (hE 0 h0).trans hh.2.2.1, fun k c hk => ?_⟩
  by_cases hm : k + 1 ∈ l
  · exact hc _ hm c hk
  · rw [hE _ hm]
    exact hh.2.2.2 k c hk
def nw_sm (Mo : List Nat) (a : Nat) (e e' : ab_E) : Prop := (∃ ci ws ws', e = .inr (ci, ws) ∧ e' = .inr (ci, ws') ∧ ∀ k : Nat, Mo.contains (a * 128 + k) = false → ws'[k]? = ws[k]?) ∨ (∃ (t n : Nat) (f f' : Nat → Int32), e = .inl (t, n, .inl f) ∧ e' = .inl (t, n, .inl f') ∧ Mo.contains (a * 128 + 127) = true ∧ Mo.contains (a * 128 + 125) = true) ∨ (∃ (t n : Nat) (f f' : Nat → Int64), e = .inl (t, n, .inr (.inl f)) ∧ e' = .inl (t, n, .inr (.inl f')) ∧ Mo.contains (a * 128 + 127) = true)
theorem nw_fr {Mo : List Nat} (hE : h'.1 = h.1) (hc : ∀ a, h'.2.2 a = h.2.2 a ∨ nw_sm Mo a (h.2.2 a) (h'.2.2 a)) : sx_fr Mo h h' := by
  intro key hk
  have hkey : key / 128 * 128 + key % 128 = key := by omega
  unfold sx_ob
  by_cases hb : key / 128 < h.1
  · have r1 : ab_rd h (key / 128) = some (h.2.2 (key / 128)) := if_pos hb
    have r2 : ab_rd h' (key / 128) = some (h'.2.2 (key / 128)) := if_pos (by rw [hE]; exact hb)
    rcases hc (key / 128) with e | e
    · by_cases h7 : key % 128 = 127
      · rw [if_pos h7, if_pos h7, e]
      · rw [if_neg h7, if_neg h7]
        unfold sx_fd
        rw [r1, r2, e]
    · rcases e with ⟨ci, ws, ws', e1, e2, hws⟩ | ⟨t, n, f, f', e1, e2, m1, m2⟩ | ⟨t, n, f, f', e1, e2, m1⟩
      · by_cases h7 : key % 128 = 127
        · rw [if_pos h7, if_pos h7, e1, e2]
        · rw [if_neg h7, if_neg h7]
          unfold sx_fd
          rw [r1, r2, e1, e2]
          dsimp only
          rw [hws (key % 128) (by rw [hkey]; exact hk)]
      · by_cases h7 : key % 128 = 127
        · rw [← h7, hkey, hk] at m1
          cases m1
        · by_cases h5 : key % 128 = 125
          · rw [← h5, hkey, hk] at m2
            cases m2
          · rw [if_neg h7, if_neg h7]
            unfold sx_fd
            rw [r1, r2, e1, e2]
            dsimp only
            rw [if_neg h5, if_neg h5]
      · by_cases h7 : key % 128 = 127
        · rw [← h7, hkey, hk] at m1
          cases m1
        · rw [if_neg h7, if_neg h7]
          unfold sx_fd
          rw [r1, r2, e1, e2]
  · have r1 : ab_rd h (key / 128) = none := if_neg hb
    have r2 : ab_rd h' (key / 128) = none := if_neg (by rw [hE]; exact hb)
    by_cases h7 : key % 128 = 127
    · rw [if_pos h7, if_pos h7]
      rcases hc (key / 128) with e | e
      · rw [e]
      · rcases e with ⟨ci, ws, ws', e1, e2, hws⟩ | ⟨t, n, f, f', e1, e2, m1, m2⟩ | ⟨t, n, f, f', e1, e2, m1⟩
        · rw [e1, e2]
        · rw [← h7, hkey, hk] at m1
          cases m1
        · rw [← h7, hkey, hk] at m1
          cases m1
    · rw [if_neg h7, if_neg h7]
      unfold sx_fd
      rw [r1, r2]
end NW
section NX
variable {z L d : Nat} {xs : Nat → Int32} {h h' : ab_H} {M : ab_M} {pc : Nat} {lv : ab_L} {st : List Value} {P Q : Option Value → ab_H → Prop} {K : sx_KK}
theorem go_and (a : ab_go d M pc lv st h P) (b : ab_go d M pc lv st h Q) : ab_go d M pc lv st h (fun r h' => P r h' ∧ Q r h') := by
  obtain ⟨n1, r1, g1, hx1, hq1⟩ := a
  obtain ⟨n2, r2, g2, hx2, hq2⟩ := b
  have e1 := ab_ex_fuel n1 hx1 n2
  have e2 := ab_ex_fuel n2 hx2 n1
  rw [Nat.add_comm n2 n1, e1] at e2
  cases e2
  exact ⟨n1, r1, g1, hx1, hq1, hq2⟩
def nw_s1 : sx_S := ([], [.inr (1, 82)], [], [], [], [], 1)
theorem nw_use (hK : sx_holds sx_SP z L xs K) (hG : ab_G K.1 = some M) (hs : K.2.1 = nw_s1) (hd : K.2.2.2.1 ≤ d) (hh : sx_h sx_SP z L xs h) : ab_go d M 0 [(0, .ref 82)] [] h (sx_post sx_SP z L xs K (fun _ => 0) h) := hK.2 M hG d hd _ [.ref 82] h (by
  rw [hs]
  exact ⟨fun q hq => (by cases hq), ⟨rfl, trivial⟩, fun q hq => (by cases hq), fun q hq => (by cases hq), fun q hq => (by cases hq), fun q hq => (by cases hq), hh⟩)
def nw_s2 (a b : Int) : sx_S := ([], [.inr (1, 82), .inl (0, (0, [(1, 1)]))], [], [], [(1, a, b)], [], 2)
theorem nw_use2 (hK : sx_holds sx_SP z L xs K) (hG : ab_G K.1 = some M) {a b : Int} (hs : K.2.1 = nw_s2 a b) (hd : K.2.2.2.1 ≤ d) (hh : sx_h sx_SP z L xs h) {x : Int32} (hx : a ≤ x.toInt ∧ x.toInt ≤ b) : ab_go d M 0 [(0, .ref 82), (1, .int x)] [] h (sx_post sx_SP z L xs K (fun _ => x.toInt) h) := hK.2 M hG d hd _ [.ref 82, .int x] h (by
  rw [hs]
  refine ⟨fun q hq => (by cases hq), ⟨rfl, ?_, trivial⟩, fun q hq => (by cases hq), fun q hq => (by cases hq), fun q hq => ?_, fun q hq => (by cases hq), hh⟩
  · show x.toInt = sx_ev (fun _ => x.toInt) (sx_Y 1)
    rw [sx_ev_Y]
  · have hq : q ∈ [((1 : Nat), a, b)] := hq
    rw [List.mem_singleton] at hq
    subst hq
    exact hx)
theorem nw_h {β : Nat → Int} {r : Option Value} (g : sx_post sx_SP z L xs K β h r h') : sx_h sx_SP z L xs h' ∧ sx_fr K.2.2.1 h h' := by
  obtain ⟨O, -, β1, -, g1, g2⟩ := g
  exact ⟨g1.2.2.2.2.2.2, g2⟩
/-- an int in bounds is answered -/
theorem nw_r {a b : Int} {nx : Nat} {fs : List (Nat × sx_V)} {es : List (Nat × sx_E × sx_V)} {fa : List sx_E} {s : Nat} {β : Nat → Int} {r : Option Value} (g : sx_at sx_SP z L xs ([], [.inl (0, (0, [(s, 1)]))], fs, es, [(s, a, b)], fa, nx) β [] r.toList h) : ∃ x : Int32, r = some (.int x) ∧ a ≤ x.toInt ∧ x.toInt ≤ b := by
  obtain ⟨-, g2, -, -, g5, -⟩ := g
  cases r with
  | none => exact g2.elim
  | some w =>
    have c3 := g2.1
    cases w with
    | int x =>
      have e : x.toInt = sx_ev β (sx_Y s) := c3
      have q := g5 (s, a, b) (List.mem_singleton.mpr rfl)
      rw [sx_ev_Y] at e
      exact ⟨x, rfl, by rw [e]; exact q⟩
    | _ => exact c3.elim
theorem nw_int {e : sx_E} {A : List (Nat × sx_V)} {R : List (Nat × sx_V) × List (Nat × sx_E × sx_V) × sx_N × List sx_E × Nat} {β : Nat → Int} {r : Option Value} (g : sx_at sx_SP z L xs (A, [.inl (0, e)], R) β [] r.toList h) : ∃ x : Int32, r = some (.int x) := by
  obtain ⟨-, g2, -⟩ := g
  cases r with
  | none => exact g2.elim
  | some w =>
    have c3 := g2.1
    cases w with
    | int x => exact ⟨x, rfl⟩
    | _ => exact c3.elim
end NX
