/-! ===== isGraph, by pieces ===== -/
section IGA
variable {SP : List sx_C} {z L : Nat} {xs : Nat → Int32} {β : Nat → Int} {A : sx_S} {lv : ab_L} {st : List Value} {h : ab_H}
theorem sx_at.lkI {i : Nat} {e : sx_E} (g : sx_at SP z L xs A β lv st h) (hm : (i, .inl (0, e)) ∈ A.1) : ∃ x : Int32, ab_lk lv i = some (.int x) ∧ x.toInt = sx_ev β e := by
  obtain ⟨w, a, v⟩ := g.1 _ hm
  cases w with
  | int x => exact ⟨x, a, v⟩
  | _ => exact v.elim
theorem sx_at.lkR {i a : Nat} (g : sx_at SP z L xs A β lv st h) (hm : (i, .inr (1, a)) ∈ A.1) : ab_lk lv i = some (.ref a) := by
  obtain ⟨w, b, v⟩ := g.1 _ hm
  cases w with
  | ref x => have e : a = x := v; rw [e]; exact b
  | _ => exact v.elim
theorem sx_at.fdI {k : Nat} {e : sx_E} (g : sx_at SP z L xs A β lv st h) (hm : (k, .inl (0, e)) ∈ A.2.2.1) : ∃ x : Int32, sx_fd h k = some (.int x) ∧ x.toInt = sx_ev β e := by
  obtain ⟨w, a, v⟩ := g.2.2.1 _ hm
  cases w with
  | int x => exact ⟨x, a, v⟩
  | _ => exact v.elim
end IGA
def ig_b (i p x l : Int) : Nat → Int := fun s => if s = 1 then i else if s = 2 then p else if s = 3 then x else if s = 4 then l else 0
def ig_N (a b c d e : Int) : sx_N := [(1, a, b), (2, 0, c), (3, d, e), (4, 0, 20)]
def ig_l (i p : sx_E) : List (Nat × sx_V) := [(0, .inr (1, 82)), (1, .inl (0, i)), (2, .inl (0, p))]
def ig_S (lo : List (Nat × sx_V)) (st : List sx_V) (N : sx_N) (fa : List sx_E) : sx_S := (lo, st, [(10506, .inl (0, sx_Y 4))], [], N, fa, 5)
def ig_mo : List Nat := [14207, 14333, 14335, 14461, 14463]
def ig_K (os : List sx_S) : sx_KK := (9997, ([], [], [], [], ig_N 0 1 20 (-2147483648) 2147483647, [], 5), ig_mo, 3, os)
def ig_os : List sx_S := [([], [.inl (0, (0, [(5, 1)]))], [], [], [(5, 0, 1)], [], 6)]
/-- p is below the places; p is none below -/
def ig_lt : sx_E := (1, [(2, 1), (4, -1)])
def ig_ge : sx_E := (0, [(2, -1), (4, 1)])
def ig_any : sx_S := ig_S (ig_l (sx_Y 1) (sx_Y 2)) [] (ig_N 0 1 20 (-2147483648) 2147483647) []
theorem ig_r4 : sx_run sx_SP sx_KT2 (ig_K []) ab_M_X10_isGraph [(16, ig_S (ig_l (sx_Y 1) (sx_Y 2)) [] (ig_N 1 1 19 (-2147483648) 2147483647) [ig_lt], (0, [])), (4, ig_S (ig_l (0, []) (1, [(2, 1)])) [] (ig_N 0 1 19 (-2147483648) 2147483647) [], (0, [])), (52, ig_S (ig_l (sx_Y 1) (sx_Y 2)) [] (ig_N 0 1 20 (-2147483648) 2147483647) [ig_ge], (0, []))] none 300 4 ig_any = true := by decide +kernel
theorem ig_r21 : sx_run sx_SP sx_KT2 (ig_K []) ab_M_X10_isGraph [(28, ig_S (ig_l (sx_Y 1) (sx_Y 2)) [] (ig_N 1 1 19 1 65535) [ig_lt], (0, [])), (4, ig_S (ig_l (0, []) (1, [(2, 1)])) [] (ig_N 1 1 19 0 65535) [], (0, []))] none 300 21 (ig_S (ig_l (sx_Y 1) (sx_Y 2)) [.inl (0, sx_Y 3)] (ig_N 1 1 19 0 65535) [ig_lt]) = true := by decide +kernel
theorem ig_r33 : sx_run sx_SP sx_KT2 (ig_K []) ab_M_X10_isGraph [(4, ig_S (ig_l (1, []) (1, [(2, 1)])) [] (ig_N 1 1 19 1 65535) [], (0, [])), (4, ig_S (ig_l (0, []) (1, [(2, 1)])) [] (ig_N 1 1 19 0 65535) [], (0, []))] none 300 33 (ig_S (ig_l (sx_Y 1) (sx_Y 2)) [.inl (0, sx_Y 3)] (ig_N 1 1 19 0 65535) [ig_lt]) = true := by decide +kernel
theorem ig_r52 : sx_run sx_SP sx_KT2 (ig_K ig_os) ab_M_X10_isGraph [(60, ig_S (ig_l (sx_Y 1) (0, [])) [] (ig_N 1 1 20 (-2147483648) 2147483647) [], (0, []))] none 300 52 ig_any = true := by decide +kernel
theorem ig_r60 : sx_run sx_SP sx_KT2 (ig_K []) ab_M_X10_isGraph [(75, ig_S (ig_l (sx_Y 1) (sx_Y 2)) [.inl (0, sx_Y 2), .inr (1, 82), .inl (0, sx_Y 2), .inr (1, 111)] (ig_N 1 1 19 (-2147483648) 2147483647) [ig_lt], (0, [])), (102, ig_S (ig_l (sx_Y 1) (sx_Y 2)) [] (ig_N 1 1 20 (-2147483648) 2147483647) [], (0, []))] none 300 60 (ig_S (ig_l (sx_Y 1) (sx_Y 2)) [] (ig_N 1 1 20 (-2147483648) 2147483647) []) = true := by decide +kernel
theorem ig_r78 : sx_run sx_SP sx_KT2 (ig_K []) ab_M_X10_isGraph [(89, ig_S (ig_l (sx_Y 1) (sx_Y 2)) [.inl (0, sx_Y 2), .inr (1, 82), .inl (0, sx_Y 2), .inr (1, 112)] (ig_N 1 1 19 1 65535) [ig_lt], (0, []))] none 300 78 (ig_S (ig_l (sx_Y 1) (sx_Y 2)) [.inl (0, sx_Y 3), .inl (0, sx_Y 2), .inr (1, 111)] (ig_N 1 1 19 1 65535) [ig_lt]) = true := by decide +kernel
theorem ig_r92 : sx_run sx_SP sx_KT2 (ig_K []) ab_M_X10_isGraph [(60, ig_S (ig_l (sx_Y 1) (1, [(2, 1)])) [] (ig_N 1 1 19 1 65535) [], (0, []))] none 300 92 (ig_S (ig_l (sx_Y 1) (sx_Y 2)) [.inl (0, sx_Y 3), .inl (0, sx_Y 2), .inr (1, 112)] (ig_N 1 1 19 1 65535) [ig_lt]) = true := by decide +kernel
def ig_at : List sx_AA := [(111, ([(0, .inr (1, 82)), (1, .inl (0, sx_Y 5)), (2, .inl (0, sx_Y 6))], [], [], [], [(5, 0, 1), (6, 0, 16)], [], 7), (16, [(6, -1)]))]
theorem ig_tp : ig_at.all (sx_plok (sx_nx (ig_K ig_os).2.1)) = true := by decide +kernel
theorem ig_tr : ig_at.all (fun b => sx_run sx_SP sx_KT2 (ig_K ig_os) ab_M_X10_isGraph ig_at (some b.2.2) 300 b.1 b.2.1) = true := by decide +kernel
theorem ig_r102 : sx_run sx_SP sx_KT2 (ig_K ig_os) ab_M_X10_isGraph ig_at none 300 102 ig_any = true := by decide +kernel
theorem ig_r0 : sx_run sx_SP sx_KT2 (ig_K []) ab_M_X10_isGraph [(4, ig_S (ig_l (1, []) (0, [])) [] (ig_N 0 1 20 (-2147483648) 2147483647) [], (0, []))] none 300 0 (ig_S [(0, .inr (1, 82))] [] (ig_N 0 1 20 (-2147483648) 2147483647) []) = true := by decide +kernel
section IG
variable {z L : Nat} {xs : Nat → Int32} {d : Nat} {h0 : ab_H} {Q : Option Value → ab_H → Prop}
/-- what the model's cells are, as far as feeding and taking look -/
def ig_G (h : ab_H) (EV : Int32) (f t : Nat → Int32) : Prop := (∃ ws, ab_rd h 82 = some (.inr (10, ws)) ∧ ws[3]? = some (.int EV) ∧ ws[8]? = some (.ref 89) ∧ ws[7]? = some (.ref 88)) ∧ ab_rd h 89 = some (.inl (0, 16, .inl f)) ∧ ab_rd h 88 = some (.inl (0, 16, .inl t))
theorem ig_heap {h : ab_H} (hh : sx_h sx_SP z L xs h) : ∃ EV f t, ig_G h EV f t ∧ 0 ≤ EV.toInt ∧ EV.toInt ≤ 16 := by
  have hc : ∃ fs, sx_cel sx_SP 82 = some (.inr (10, fs)) ∧ fs[3]? = some (0, 0, 16, []) ∧ fs[8]? = some (2, 0, 0, [89]) ∧ fs[7]? = some (2, 0, 0, [88]) := ⟨_, rfl, rfl, rfl, rfl⟩
  obtain ⟨fs, c1, c2, c3, c4⟩ := hc
  obtain ⟨r1, r2, -⟩ := sx_cel_ok c1 hh
  obtain ⟨ws, ew, hlen, hfv⟩ := sx_c_o r2
  rw [ew] at r1
  have get : ∀ (k : Nat) (fk : sx_F), fs[k]? = some fk → ∃ w, ws[k]? = some w ∧ sx_fv fk w := fun k fk hk => by
    have hkl : k < ws.length := by rw [← hlen]; exact (List.getElem?_eq_some_iff.mp hk).1
    exact ⟨ws[k], List.getElem?_eq_getElem hkl, hfv k fk _ hk (List.getElem?_eq_getElem hkl)⟩
  obtain ⟨w3, e3, v3⟩ := get 3 _ c2
  obtain ⟨w8, e8, v8⟩ := get 8 _ c3
  obtain ⟨w7, e7, v7⟩ := get 7 _ c4
  obtain ⟨EV, rfl, b1, b2⟩ := v3
  obtain ⟨a8, rfl, m8⟩ := v8
  obtain ⟨a7, rfl, m7⟩ := v7
  rw [List.mem_singleton] at m8 m7
  subst m8 m7
  have h89 : ∃ ps cs, sx_cel sx_SP 89 = some (.inl (0, 16, ps, cs)) := ⟨_, _, rfl⟩
  have h88 : ∃ ps cs, sx_cel sx_SP 88 = some (.inl (0, 16, ps, cs)) := ⟨_, _, rfl⟩
  obtain ⟨ps, cs, h89⟩ := h89
  obtain ⟨ps', cs', h88⟩ := h88
  obtain ⟨s1, s2, -⟩ := sx_cel_ok h89 hh
  obtain ⟨t1, t2, -⟩ := sx_cel_ok h88 hh
  obtain ⟨f, ef, -⟩ := sx_c_i s2 (by decide) (by decide)
  obtain ⟨t, et, -⟩ := sx_c_i t2 (by decide) (by decide)
  rw [ef] at s1
  rw [et] at t1
  exact ⟨EV, f, t, ⟨⟨ws, r1, e3, e8, e7⟩, s1, t1⟩, b1, b2⟩
theorem ig_same {h : ab_H} {EV : Int32} {f t : Nat → Int32} (g0 : ig_G h0 EV f t) (hh : sx_h sx_SP z L xs h) (hfr : sx_fr ig_mo h0 h) : ig_G h EV f t := by
  obtain ⟨EV', f', t', g, -, -⟩ := ig_heap hh
  obtain ⟨⟨ws0, a1, a2, -, -⟩, b0, c0⟩ := g0
  obtain ⟨⟨ws, d1, d2, d3, d4⟩, b, c⟩ := g
  have e1 : EV' = EV := by
    have k := sx_fr_fd (key := 82 * 128 + 3) hfr (by decide) (by decide)
    rw [sx_fd_o d1 (by decide), sx_fd_o a1 (by decide), d2, a2] at k
    cases k
    rfl
  have e2 : ∀ {a : Nat} {u v : Nat → Int32}, ig_mo.contains (a * 128 + 127) = false → ab_rd h0 a = some (.inl (0, 16, .inl u)) → ab_rd h a = some (.inl (0, 16, .inl v)) → v = u := fun {a u v} hm hu hv => by
    have k := hfr (a * 128 + 127) hm
    unfold sx_ob at k
    rw [if_pos (by omega), if_pos (by omega), show (a * 128 + 127) / 128 = a by omega, (ab_rd_of hu).2, (ab_rd_of hv).2] at k
    cases k
    rfl
  have e3 := e2 (a := 89) (by decide) b0 b
  have e4 := e2 (a := 88) (by decide) c0 c
  rw [e1] at d2
  rw [e3] at b
  rw [e4] at c
  exact ⟨⟨ws, d1, d2, d3, d4⟩, b, c⟩
/-- what stands at the heads -/
def ig_I (z L : Nat) (xs : Nat → Int32) (lv : ab_L) (h : ab_H) (A P PL : Int32) : Prop := ab_lk lv 0 = some (.ref 82) ∧ ab_lk lv 1 = some (.int A) ∧ ab_lk lv 2 = some (.int P) ∧ sx_fd h 10506 = some (.int PL) ∧ sx_h sx_SP z L xs h
theorem ig_in {lv : ab_L} {stk : List Value} {h : ab_H} {A P PL : Int32} {x : Int} {st : List sx_V} {fa : List sx_E} {a b c e1 e2 : Int} (i : ig_I z L xs lv h A P PL) (hst : sx_st (ig_b A.toInt P.toInt x PL.toInt) st stk) (ha : a ≤ A.toInt ∧ A.toInt ≤ b) (hp : 0 ≤ P.toInt ∧ P.toInt ≤ c) (hx : e1 ≤ x ∧ x ≤ e2) (hl : 0 ≤ PL.toInt ∧ PL.toInt ≤ 20) (hf : ∀ q ∈ fa, sx_ev (ig_b A.toInt P.toInt x PL.toInt) q ≤ 0) : sx_at sx_SP z L xs (ig_S (ig_l (sx_Y 1) (sx_Y 2)) st (ig_N a b c e1 e2) fa) (ig_b A.toInt P.toInt x PL.toInt) lv stk h := by
  obtain ⟨i0, i1, i2, i3, hh⟩ := i
  refine ⟨fun q hq => ?_, hst, fun q hq => ?_, fun q hq => (by cases hq), fun q hq => ?_, hf, hh⟩
  · rcases List.mem_cons.mp hq with rfl | hq
    · exact ⟨_, i0, rfl⟩
    rcases List.mem_cons.mp hq with rfl | hq
    · exact ⟨_, i1, by show A.toInt = _; rw [sx_ev_Y]; rfl⟩
    rcases List.mem_cons.mp hq with rfl | hq
    · exact ⟨_, i2, by show P.toInt = _; rw [sx_ev_Y]; rfl⟩
    cases hq
  · rcases List.mem_cons.mp hq with rfl | hq
    · exact ⟨_, i3, by show PL.toInt = _; rw [sx_ev_Y]; rfl⟩
    cases hq
  · rcases List.mem_cons.mp hq with rfl | hq
    · exact ha
    rcases List.mem_cons.mp hq with rfl | hq
    · exact hp
    rcases List.mem_cons.mp hq with rfl | hq
    · exact hx
    rcases List.mem_cons.mp hq with rfl | hq
    · exact hl
    cases hq
theorem ig_out {lv : ab_L} {stk : List Value} {h : ab_H} {β : Nat → Int} {ei ep : sx_E} {st : List sx_V} {N : sx_N} {fa : List sx_E} {i p x l : Int} {PL : Int32} (hl : l = PL.toInt) (g : sx_at sx_SP z L xs (ig_S (ig_l ei ep) st N fa) β lv stk h) (ha : sx_ag 5 (ig_b i p x l) β) (w1 : sx_wE 5 ei = true) (w2 : sx_wE 5 ep = true) : ∃ A P : Int32, ig_I z L xs lv h A P PL ∧ A.toInt = sx_ev (ig_b i p x l) ei ∧ P.toInt = sx_ev (ig_b i p x l) ep := by
  obtain ⟨A, a1, a2⟩ := g.lkI (i := 1) (e := ei) (List.mem_cons_of_mem _ List.mem_cons_self)
  obtain ⟨P, p1, p2⟩ := g.lkI (i := 2) (e := ep) (List.mem_cons_of_mem _ (List.mem_cons_of_mem _ List.mem_cons_self))
  obtain ⟨PL', l1, l2⟩ := g.fdI (k := 10506) (e := sx_Y 4) List.mem_cons_self
  have e : PL' = PL := by
    refine Int32.toInt_inj.mp ?_
    rw [l2, sx_ev_Y, ha 4 (by decide), ← hl]
    rfl
  rw [e] at l1
  exact ⟨A, P, ⟨g.lkR List.mem_cons_self, a1, p1, l1, g.2.2.2.2.2.2⟩, by rw [a2, sx_ev_ag ha w1], by rw [p2, sx_ev_ag ha w2]⟩
theorem ig_e1 (i p x l : Int) : sx_ev (ig_b i p x l) (sx_Y 1) = i := sx_ev_Y _ 1
theorem ig_e2 (i p x l : Int) : sx_ev (ig_b i p x l) (sx_Y 2) = p := sx_ev_Y _ 2
theorem ig_e3 (i p x l : Int) : sx_ev (ig_b i p x l) (sx_Y 3) = x := sx_ev_Y _ 3
theorem ig_e21 (i p x l : Int) : sx_ev (ig_b i p x l) (1, [(2, 1)]) = p + 1 := by simp [sx_ev, sx_ts, ig_b]; omega
theorem ig_elt (i p x l : Int) : sx_ev (ig_b i p x l) ig_lt = 1 + p - l := by simp [sx_ev, sx_ts, ig_b, ig_lt]; omega
theorem ig_ege (i p x l : Int) : sx_ev (ig_b i p x l) ig_ge = l - p := by simp [sx_ev, sx_ts, ig_b, ig_ge]; omega
def ig_T (z L : Nat) (xs : Nat → Int32) : Prop := ∀ K', sx_mem sx_KT2 K' → K'.2.2.2.1 < 3 → sx_holds sx_SP z L xs K'
theorem ig_O0 : ∀ O ∈ (ig_K []).2.2.2.2, O.1 = [] := fun O hO => by cases hO
theorem ig_O1 : ∀ O ∈ (ig_K ig_os).2.2.2.2, O.1 = [] := fun O hO => by
  rw [List.mem_singleton.mp hO]
theorem ig_Q0 {β0 : Nat → Int} : ∀ r h', sx_post sx_SP z L xs (ig_K []) β0 h0 r h' → Q r h' := fun r h' hp => by
  obtain ⟨O, hO, -⟩ := hp
  cases hO
theorem ig_st0 {β : Nat → Int} {stk : List Value} (g : sx_st β [] stk) : stk = [] := by
  cases stk with
  | nil => rfl
  | cons _ _ => exact g.elim
/-- what the checker says of feeding and taking -/
theorem ig_rng {K : sx_KK} {M : ab_M} (hK : sx_holds sx_SP z L xs K) (hG : ab_G K.1 = some M) (h1 : K.2 = (([], [.inr (1, 82), .inl (0, (0, [(1, 1)]))], [], [], [(1, 0, 19)], [], 2), [], 0, [([], [.inl (0, (0, [(2, 1)]))], [], [], [(2, 0, 65535)], [], 3)])) {h : ab_H} {P : Int32} (hh : sx_h sx_SP z L xs h) (hp : 0 ≤ P.toInt ∧ P.toInt ≤ 19) : ab_go d M 0 [(0, .ref 82), (1, .int P)] [] h (fun r _ => ∃ x : Int32, r = some (.int x) ∧ 0 ≤ x.toInt ∧ x.toInt ≤ 65535) := by
  obtain ⟨mi, K2⟩ := K
  dsimp only at h1
  subst h1
  have g : sx_at sx_SP z L xs ([], [.inr (1, 82), .inl (0, (0, [(1, 1)]))], [], [], [(1, 0, 19)], [], 2) (fun _ => P.toInt) [] [.ref 82, .int P] h := by
    refine ⟨fun q hq => (by cases hq), ⟨rfl, ?_, trivial⟩, fun q hq => (by cases hq), fun q hq => (by cases hq), fun q hq => ?_, fun q hq => (by cases hq), hh⟩
    · show P.toInt = sx_ev _ (0, [(1, 1)])
      exact (sx_ev_Y (fun _ => P.toInt) 1).symm
    · rw [List.mem_singleton] at hq
      subst hq
      exact hp
  refine (hK.2 M hG d (Nat.zero_le _) _ _ h g).mono (fun r h' hq => ?_)
  obtain ⟨O, hO, β1, -, a2, -⟩ := hq
  have hO : O ∈ [(([], [.inl (0, (0, [(2, 1)]))], [], [], [(2, 0, 65535)], [], 3) : sx_S)] := hO
  rw [List.mem_singleton] at hO
  subst hO
  have b2 := a2.2.1
  have b5 := a2.2.2.2.2.1 (2, 0, 65535) List.mem_cons_self
  cases r with
  | none => exact b2.elim
  | some w =>
    have b3 := b2.1
    cases w with
    | int x =>
      have e : x.toInt = sx_ev β1 (0, [(2, 1)]) := b3
      rw [show sx_ev β1 (0, [(2, 1)]) = β1 2 from sx_ev_Y β1 2] at e
      exact ⟨x, rfl, by rw [e]; exact b5.1, by rw [e]; exact b5.2⟩
    | _ => exact b3.elim
theorem ig_fe (T : ig_T z L xs) {h : ab_H} {EV P : Int32} {f t : Nat → Int32} {n : Nat} (hn : n ≤ 16) (he : EV.toInt = n) (gg : ig_G h EV f t) (hh : sx_h sx_SP z L xs h) (hp : 0 ≤ P.toInt ∧ P.toInt ≤ 19) : ab_go d ab_M_X10_feeding 0 [(0, .ref 82), (1, .int P)] [] h (fun r h' => r = some (.int (fe_v f P n)) ∧ h' = h ∧ 0 ≤ (fe_v f P n).toInt ∧ (fe_v f P n).toInt ≤ 65535) := by
  obtain ⟨⟨ws, a1, a2, a3, a4⟩, b, c⟩ := gg
  refine ((fe_run (P := P) hn he a1 a2 a3 b).both (ig_rng (T kq_X10_feeding_0 (by unfold sx_mem; exact List.mem_cons_self) (by decide)) rfl rfl hh hp)).mono (fun r h' hr => ?_)
  obtain ⟨⟨r1, r2⟩, x, r3, r4, r5⟩ := hr
  rw [r1] at r3
  cases r3
  exact ⟨r1, r2, r4, r5⟩
theorem ig_ta (T : ig_T z L xs) {h : ab_H} {EV P : Int32} {f t : Nat → Int32} {n : Nat} (hn : n ≤ 16) (he : EV.toInt = n) (gg : ig_G h EV f t) (hh : sx_h sx_SP z L xs h) (hp : 0 ≤ P.toInt ∧ P.toInt ≤ 19) : ab_go d ab_M_X10_taking 0 [(0, .ref 82), (1, .int P)] [] h (fun r h' => r = some (.int (fe_v t P n)) ∧ h' = h ∧ 0 ≤ (fe_v t P n).toInt ∧ (fe_v t P n).toInt ≤ 65535) := by
  obtain ⟨⟨ws, a1, a2, a3, a4⟩, b, c⟩ := gg
  refine ((ta_run (P := P) hn he a1 a2 a4 c).both (ig_rng (T kq_X10_taking_0 (by unfold sx_mem; exact List.mem_cons_self) (by decide)) rfl rfl hh hp)).mono (fun r h' hr => ?_)
  obtain ⟨⟨r1, r2⟩, x, r3, r4, r5⟩ := hr
  rw [r1] at r3
  cases r3
  exact ⟨r1, r2, r4, r5⟩
/-- the stack behind a call -/
theorem ig_call {M' : ab_M} {pc : Nat} {it : ab_I} {lv : ab_L} {h : ab_H} {P X : Int32} {rest : List Value} {ws : List Value} (h1 : ab_at ab_M_X10_isGraph.2.2.2.2.2 pc = some it) (h2 : ab_kd it = 2) (h82 : ab_rd h 82 = some (.inr (10, ws))) (hcal : ab_rd h 82 = some (.inr (10, ws)) → ab_cal ab_G it (.int P :: .ref 82 :: rest) h = some (M', [.ref 82, .int P], rest)) (hr : ab_go d M' 0 [(0, .ref 82), (1, .int P)] [] h (fun r h' => r = some (.int X) ∧ h' = h)) (k : ab_go (d + 1) ab_M_X10_isGraph (pc + 3) lv (.int X :: rest) h Q) : ab_go (d + 1) ab_M_X10_isGraph pc lv (.int P :: .ref 82 :: rest) h Q := by
  refine go_c h1 h2 (hcal h82) rfl hr (fun r h' q => ?_)
  obtain ⟨rfl, rfl⟩ := q
  exact k
theorem ig_cal_fe {h : ab_H} {P : Int32} {rest ws : List Value} (hw : (rest.map fun v => v.category).sum ≤ 8) (h82 : ab_rd h 82 = some (.inr (10, ws))) {i ix : Nat} : ab_cal ab_G (ab_c (.invokevirtual i) 0 166 1 ix) (.int P :: .ref 82 :: rest) h = some (ab_M_X10_feeding, [.ref 82, .int P], rest) := ab_cal_v (As := [.int P]) rfl (show ab_G 166 = some ab_M_X10_feeding from rfl) rfl h82 rfl rfl (by unfold ab_cok; rw [Bool.and_eq_true]; exact ⟨rfl, decide_eq_true hw⟩) rfl
theorem ig_cal_ta {h : ab_H} {P : Int32} {rest ws : List Value} (hw : (rest.map fun v => v.category).sum ≤ 8) (h82 : ab_rd h 82 = some (.inr (10, ws))) {i ix : Nat} : ab_cal ab_G (ab_c (.invokevirtual i) 0 167 1 ix) (.int P :: .ref 82 :: rest) h = some (ab_M_X10_taking, [.ref 82, .int P], rest) := ab_cal_v (As := [.int P]) rfl (show ab_G 167 = some ab_M_X10_taking from rfl) rfl h82 rfl rfl (by unfold ab_cok; rw [Bool.and_eq_true]; exact ⟨rfl, decide_eq_true hw⟩) rfl
end IG
