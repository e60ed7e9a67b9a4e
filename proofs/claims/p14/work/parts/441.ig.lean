/-! ===== the model's isGraph ===== -/
theorem ab_go.both {d : Nat} {M : ab_M} {pc : Nat} {lv : ab_L} {st : List Value} {h : ab_H} {P Q : Option Value → ab_H → Prop} (g : ab_go d M pc lv st h P) (k : ab_go d M pc lv st h Q) : ab_go d M pc lv st h (fun r h' => P r h' ∧ Q r h') := by
  obtain ⟨n1, r1, h1, x1, p1⟩ := g
  obtain ⟨n2, r2, h2, x2, p2⟩ := k
  have e1 := ab_ex_fuel n1 x1 n2
  have e2 := ab_ex_fuel n2 x2 n1
  rw [Nat.add_comm n2 n1, e1] at e2
  cases e2
  exact ⟨n1, r1, h1, x1, p1, p2⟩
/-- leastOf: from bit j on -/
theorem le_go {x : Int32} {k : Nat} (hk : k < 16) (k2 : x.toBitVec.getLsbD k = true) (k3 : ∀ j, j < k → ¬ x.toBitVec.getLsbD j = true) (d : Nat) (h : ab_H) : ∀ (m j : Nat), j + m = k → ab_go d ab_M_X10_leastOf 2 [(1, .int (Int32.ofNat j)), (0, .int x)] [] h (fun r h' => r = some (.int (Int32.ofNat k)) ∧ h' = h) := by
  intro m
  induction m with
  | zero =>
    intro j hj
    have hj : j = k := by omega
    subst hj
    have ej : (Int32.ofNat j).toInt = j := Int32.toInt_ofNat_of_lt (by omega)
    refine go_s (pc' := 3) (lv' := [(1, .int (Int32.ofNat j)), (0, .int x)]) (st' := [.int x]) (h' := h) rfl rfl rfl ?_
    refine go_s (pc' := 4) (lv' := [(1, .int (Int32.ofNat j)), (0, .int x)]) (st' := [.int (Int32.ofNat j), .int x]) (h' := h) rfl rfl rfl ?_
    refine go_s (pc' := 5) (lv' := [(1, .int (Int32.ofNat j)), (0, .int x)]) (st' := [.int (x >>> (Int32.ofNat j &&& 31))]) (h' := h) rfl rfl rfl ?_
    refine go_s (pc' := 6) (lv' := [(1, .int (Int32.ofNat j)), (0, .int x)]) (st' := [.int 1, .int (x >>> (Int32.ofNat j &&& 31))]) (h' := h) rfl rfl rfl ?_
    refine go_s (pc' := 7) (lv' := [(1, .int (Int32.ofNat j)), (0, .int x)]) (st' := [.int ((x >>> (Int32.ofNat j &&& 31)) &&& 1)]) (h' := h) rfl rfl rfl ?_
    refine go_if (c := .ne) (off := 9) (tgt := 16) rfl rfl (fun _ => ?_) (fun hc => ?_)
    · refine go_s (pc' := 17) (lv' := [(1, .int (Int32.ofNat j)), (0, .int x)]) (st' := [.int (Int32.ofNat j)]) (h' := h) rfl rfl rfl ?_
      exact go_ri (v := Int32.ofNat j) rfl rfl ⟨rfl, rfl⟩
    · have hz : ((x >>> (Int32.ofNat j &&& 31)) &&& 1).toInt = 0 := Classical.byContradiction hc
      have hb := (po_shr (by omega) (by omega)).mp hz
      rw [ej] at hb
      rw [show (j : Int).toNat = j from rfl, k2] at hb
      cases hb
  | succ m ih =>
    intro j hj
    have ej : (Int32.ofNat j).toInt = j := Int32.toInt_ofNat_of_lt (by omega)
    refine go_s (pc' := 3) (lv' := [(1, .int (Int32.ofNat j)), (0, .int x)]) (st' := [.int x]) (h' := h) rfl rfl rfl ?_
    refine go_s (pc' := 4) (lv' := [(1, .int (Int32.ofNat j)), (0, .int x)]) (st' := [.int (Int32.ofNat j), .int x]) (h' := h) rfl rfl rfl ?_
    refine go_s (pc' := 5) (lv' := [(1, .int (Int32.ofNat j)), (0, .int x)]) (st' := [.int (x >>> (Int32.ofNat j &&& 31))]) (h' := h) rfl rfl rfl ?_
    refine go_s (pc' := 6) (lv' := [(1, .int (Int32.ofNat j)), (0, .int x)]) (st' := [.int 1, .int (x >>> (Int32.ofNat j &&& 31))]) (h' := h) rfl rfl rfl ?_
    refine go_s (pc' := 7) (lv' := [(1, .int (Int32.ofNat j)), (0, .int x)]) (st' := [.int ((x >>> (Int32.ofNat j &&& 31)) &&& 1)]) (h' := h) rfl rfl rfl ?_
    refine go_if (c := .ne) (off := 9) (tgt := 16) rfl rfl (fun hc => ?_) (fun _ => ?_)
    · have hb : x.toBitVec.getLsbD (Int32.ofNat j).toInt.toNat = false := by
        rw [ej, show (j : Int).toNat = j from rfl]
        have := k3 j (by omega)
        cases hq : x.toBitVec.getLsbD j with
        | false => rfl
        | true => exact absurd hq this
      exact absurd ((po_shr (by omega) (by omega)).mpr hb) hc
    · have es : Int32.ofNat j + Int32.ofInt 1 = Int32.ofNat (j + 1) := by
        refine Int32.toInt_inj.mp ?_
        rw [Int32.toInt_add, ej, show (Int32.ofInt 1).toInt = 1 from rfl, Int32.toInt_ofNat_of_lt (by omega), sx_bm (by omega) (by omega)]
        omega
      refine go_s (pc' := 13) (lv' := [(1, .int (Int32.ofNat (j + 1))), (0, .int x)]) (st' := []) (h' := h) rfl rfl (by rw [← es]; rfl) ?_
      refine go_goto (off := -11) (tgt := 2) rfl rfl ?_
      exact ih (j + 1) (by omega)
theorem le_holds {z L : Nat} {xs : Nat → Int32} : sx_holds sx_SP z L xs kg_X10_leastOf_0 := by
  refine ⟨⟨by decide +kernel, rfl⟩, fun M hM d hd β As h g => ?_⟩
  have e : M = ab_M_X10_leastOf := Option.some.inj (hM.symm.trans rfl)
  subst e
  obtain ⟨x, q, rfl, hx, h1⟩ := sx_pi (β := β) (nx := 2) (e := (0, [(1, 1)])) (r := []) (st := As) (fun β' ha => (sx_wS_ok (by decide +kernel) g β' ha).2.1)
  have hq : q = [] := by
    have := sx_st_len (h1 β sx_ag.rf)
    cases q with
    | nil => rfl
    | cons _ _ => cases this
  subst hq
  have hb := g.2.2.2.2.1 (1, 1, 65535) List.mem_cons_self
  have hx0 := hx β sx_ag.rf
  rw [show sx_ev β (0, [(1, 1)]) = β 1 from sx_ev_Y β 1] at hx0
  obtain ⟨k, k1, k2, k3⟩ := lo_bit x (by rw [hx0]; exact hb.1) (by rw [hx0]; exact hb.2)
  show ab_go d ab_M_X10_leastOf 0 [(0, .int x)] [] h _
  refine go_s (pc' := 1) (lv' := [(0, .int x)]) (st' := [.int 0]) (h' := h) rfl rfl rfl ?_
  refine go_s (pc' := 2) (lv' := [(1, .int (Int32.ofNat 0)), (0, .int x)]) (st' := []) (h' := h) rfl rfl rfl ?_
  refine (le_go k1 k2 k3 d h k 0 (by omega)).mono (fun r h' hr => ?_)
  obtain ⟨rfl, rfl⟩ := hr
  refine ⟨_, List.mem_cons_self, sx_bu β 2 k, sx_bu_ag, ?_, sx_fr.rf⟩
  have ek : (Int32.ofNat k).toInt = k := Int32.toInt_ofNat_of_lt (by omega)
  have e2 : sx_bu β 2 k 2 = k := if_pos rfl
  refine ⟨fun q hq => (by cases hq), ⟨?_, trivial⟩, fun q hq => (by cases hq), fun q hq => (by cases hq), fun q hq => ?_, fun q hq => (by cases hq), g.2.2.2.2.2.2⟩
  · show (Int32.ofNat k).toInt = sx_ev _ (0, [(2, 1)])
    rw [show sx_ev (sx_bu β 2 k) (0, [(2, 1)]) = sx_bu β 2 k 2 from sx_ev_Y _ 2, e2, ek]
  · have hq : q ∈ [((2 : Nat), (0 : Int), (15 : Int))] := hq
    rw [List.mem_singleton] at hq
    subst hq
    show 0 ≤ sx_bu β 2 k 2 ∧ sx_bu β 2 k 2 ≤ 15
    rw [e2]
    omega
def fe_v (f : Nat → Int32) (P : Int32) : Nat → Int32
  | 0 => 0
  | n + 1 => fe_v f P n ||| (((f n >>> (P &&& 31)) &&& 1) <<< (Int32.ofNat n &&& 31))
theorem fe_go {d : Nat} {h : ab_H} {ws : List Value} {EV P : Int32} {f : Nat → Int32} {n : Nat} (hn : n ≤ 16) (he : EV.toInt = n) (h82 : ab_rd h 82 = some (.inr (10, ws))) (w3 : ws[3]? = some (.int EV)) (w8 : ws[8]? = some (.ref 89)) (h89 : ab_rd h 89 = some (.inl (0, 16, .inl f))) : ∀ (m j : Nat), j + m = n → ab_go d ab_M_X10_feeding 4 [(3, .int (Int32.ofNat j)), (2, .int (fe_v f P j)), (0, .ref 82), (1, .int P)] [] h (fun r h' => r = some (.int (fe_v f P n)) ∧ h' = h) := by
  intro m
  induction m with
  | zero =>
    intro j hj
    have hj : j = n := by omega
    subst hj
    have ej : (Int32.ofNat j).toInt = j := Int32.toInt_ofNat_of_lt (by omega)
    refine go_s (pc' := 5) (lv' := [(3, .int (Int32.ofNat j)), (2, .int (fe_v f P j)), (0, .ref 82), (1, .int P)]) (st' := [.int (Int32.ofNat j)]) (h' := h) rfl rfl rfl ?_
    refine go_s (pc' := 6) (lv' := [(3, .int (Int32.ofNat j)), (2, .int (fe_v f P j)), (0, .ref 82), (1, .int P)]) (st' := [.ref 82, .int (Int32.ofNat j)]) (h' := h) rfl rfl rfl ?_
    refine go_get (i := _) (ci := 10) (k := 3) (ix := _) rfl h82 w3 ?_
    refine go_ic (c := .ge) (off := 24) (tgt := 33) rfl rfl (fun _ => ?_) (fun hc => ?_)
    · refine go_s (pc' := 34) (lv' := [(3, .int (Int32.ofNat j)), (2, .int (fe_v f P j)), (0, .ref 82), (1, .int P)]) (st' := [.int (fe_v f P j)]) (h' := h) rfl rfl rfl ?_
      exact go_ri (v := fe_v f P j) rfl rfl ⟨rfl, rfl⟩
    · exact absurd (show EV.toInt ≤ (Int32.ofNat j).toInt by omega) hc
  | succ m ih =>
    intro j hj
    have ej : (Int32.ofNat j).toInt = j := Int32.toInt_ofNat_of_lt (by omega)
    refine go_s (pc' := 5) (lv' := [(3, .int (Int32.ofNat j)), (2, .int (fe_v f P j)), (0, .ref 82), (1, .int P)]) (st' := [.int (Int32.ofNat j)]) (h' := h) rfl rfl rfl ?_
    refine go_s (pc' := 6) (lv' := [(3, .int (Int32.ofNat j)), (2, .int (fe_v f P j)), (0, .ref 82), (1, .int P)]) (st' := [.ref 82, .int (Int32.ofNat j)]) (h' := h) rfl rfl rfl ?_
    refine go_get (i := _) (ci := 10) (k := 3) (ix := _) rfl h82 w3 ?_
    refine go_ic (c := .ge) (off := 24) (tgt := 33) rfl rfl (fun hc => ?_) (fun _ => ?_)
    · have hc : EV.toInt ≤ (Int32.ofNat j).toInt := hc
      omega
    · refine go_s (pc' := 13) (lv' := [(3, .int (Int32.ofNat j)), (2, .int (fe_v f P j)), (0, .ref 82), (1, .int P)]) (st' := [.int (fe_v f P j)]) (h' := h) rfl rfl rfl ?_
      refine go_s (pc' := 14) (lv' := [(3, .int (Int32.ofNat j)), (2, .int (fe_v f P j)), (0, .ref 82), (1, .int P)]) (st' := [.ref 82, .int (fe_v f P j)]) (h' := h) rfl rfl rfl ?_
      refine go_get (i := _) (ci := 10) (k := 8) (ix := _) rfl h82 w8 ?_
      refine go_s (pc' := 18) (lv' := [(3, .int (Int32.ofNat j)), (2, .int (fe_v f P j)), (0, .ref 82), (1, .int P)]) (st' := [.int (Int32.ofNat j), .ref 89, .int (fe_v f P j)]) (h' := h) rfl rfl rfl ?_
      refine go_ial (v := f j) rfl h89 (sx_ab_in (by omega) (by omega)).1 (by show f (Int32.ofNat j).toInt.toNat = f j; rw [ej]; rfl) ?_
      refine go_s (pc' := 20) (lv' := [(3, .int (Int32.ofNat j)), (2, .int (fe_v f P j)), (0, .ref 82), (1, .int P)]) (st' := [.int P, .int (f j), .int (fe_v f P j)]) (h' := h) rfl rfl rfl ?_
      refine go_s (pc' := 21) (lv' := [(3, .int (Int32.ofNat j)), (2, .int (fe_v f P j)), (0, .ref 82), (1, .int P)]) (st' := [.int (f j >>> (P &&& 31)), .int (fe_v f P j)]) (h' := h) rfl rfl rfl ?_
      refine go_s (pc' := 22) (lv' := [(3, .int (Int32.ofNat j)), (2, .int (fe_v f P j)), (0, .ref 82), (1, .int P)]) (st' := [.int 1, .int (f j >>> (P &&& 31)), .int (fe_v f P j)]) (h' := h) rfl rfl rfl ?_
      refine go_s (pc' := 23) (lv' := [(3, .int (Int32.ofNat j)), (2, .int (fe_v f P j)), (0, .ref 82), (1, .int P)]) (st' := [.int ((f j >>> (P &&& 31)) &&& 1), .int (fe_v f P j)]) (h' := h) rfl rfl rfl ?_
      refine go_s (pc' := 24) (lv' := [(3, .int (Int32.ofNat j)), (2, .int (fe_v f P j)), (0, .ref 82), (1, .int P)]) (st' := [.int (Int32.ofNat j), .int ((f j >>> (P &&& 31)) &&& 1), .int (fe_v f P j)]) (h' := h) rfl rfl rfl ?_
      refine go_s (pc' := 25) (lv' := [(3, .int (Int32.ofNat j)), (2, .int (fe_v f P j)), (0, .ref 82), (1, .int P)]) (st' := [.int (((f j >>> (P &&& 31)) &&& 1) <<< (Int32.ofNat j &&& 31)), .int (fe_v f P j)]) (h' := h) rfl rfl rfl ?_
      refine go_s (pc' := 26) (lv' := [(3, .int (Int32.ofNat j)), (2, .int (fe_v f P j)), (0, .ref 82), (1, .int P)]) (st' := [.int (fe_v f P (j + 1))]) (h' := h) rfl rfl rfl ?_
      refine go_s (pc' := 27) (lv' := [(2, .int (fe_v f P (j + 1))), (3, .int (Int32.ofNat j)), (0, .ref 82), (1, .int P)]) (st' := []) (h' := h) rfl rfl rfl ?_
      have es : Int32.ofNat j + Int32.ofInt 1 = Int32.ofNat (j + 1) := by
        refine Int32.toInt_inj.mp ?_
        rw [Int32.toInt_add, ej, show (Int32.ofInt 1).toInt = 1 from rfl, Int32.toInt_ofNat_of_lt (by omega), sx_bm (by omega) (by omega)]
        omega
      refine go_s (pc' := 30) (lv' := [(3, .int (Int32.ofNat (j + 1))), (2, .int (fe_v f P (j + 1))), (0, .ref 82), (1, .int P)]) (st' := []) (h' := h) rfl rfl (by rw [← es]; rfl) ?_
      refine go_goto (off := -26) (tgt := 4) rfl rfl ?_
      exact ih (j + 1) (by omega)
theorem fe_run {d : Nat} {h : ab_H} {ws : List Value} {EV P : Int32} {f : Nat → Int32} {n : Nat} (hn : n ≤ 16) (he : EV.toInt = n) (h82 : ab_rd h 82 = some (.inr (10, ws))) (w3 : ws[3]? = some (.int EV)) (w8 : ws[8]? = some (.ref 89)) (h89 : ab_rd h 89 = some (.inl (0, 16, .inl f))) : ab_go d ab_M_X10_feeding 0 [(0, .ref 82), (1, .int P)] [] h (fun r h' => r = some (.int (fe_v f P n)) ∧ h' = h) := by
  refine go_s (pc' := 1) (lv' := [(0, .ref 82), (1, .int P)]) (st' := [.int 0]) (h' := h) rfl rfl rfl ?_
  refine go_s (pc' := 2) (lv' := [(2, .int 0), (0, .ref 82), (1, .int P)]) (st' := []) (h' := h) rfl rfl rfl ?_
  refine go_s (pc' := 3) (lv' := [(2, .int 0), (0, .ref 82), (1, .int P)]) (st' := [.int 0]) (h' := h) rfl rfl rfl ?_
  refine go_s (pc' := 4) (lv' := [(3, .int (Int32.ofNat 0)), (2, .int (fe_v f P 0)), (0, .ref 82), (1, .int P)]) (st' := []) (h' := h) rfl rfl rfl ?_
  exact fe_go hn he h82 w3 w8 h89 n 0 (by omega)
theorem ta_go {d : Nat} {h : ab_H} {ws : List Value} {EV P : Int32} {f : Nat → Int32} {n : Nat} (hn : n ≤ 16) (he : EV.toInt = n) (h82 : ab_rd h 82 = some (.inr (10, ws))) (w3 : ws[3]? = some (.int EV)) (w8 : ws[7]? = some (.ref 88)) (h89 : ab_rd h 88 = some (.inl (0, 16, .inl f))) : ∀ (m j : Nat), j + m = n → ab_go d ab_M_X10_taking 4 [(3, .int (Int32.ofNat j)), (2, .int (fe_v f P j)), (0, .ref 82), (1, .int P)] [] h (fun r h' => r = some (.int (fe_v f P n)) ∧ h' = h) := by
  intro m
  induction m with
  | zero =>
    intro j hj
    have hj : j = n := by omega
    subst hj
    have ej : (Int32.ofNat j).toInt = j := Int32.toInt_ofNat_of_lt (by omega)
    refine go_s (pc' := 5) (lv' := [(3, .int (Int32.ofNat j)), (2, .int (fe_v f P j)), (0, .ref 82), (1, .int P)]) (st' := [.int (Int32.ofNat j)]) (h' := h) rfl rfl rfl ?_
    refine go_s (pc' := 6) (lv' := [(3, .int (Int32.ofNat j)), (2, .int (fe_v f P j)), (0, .ref 82), (1, .int P)]) (st' := [.ref 82, .int (Int32.ofNat j)]) (h' := h) rfl rfl rfl ?_
    refine go_get (i := _) (ci := 10) (k := 3) (ix := _) rfl h82 w3 ?_
    refine go_ic (c := .ge) (off := 24) (tgt := 33) rfl rfl (fun _ => ?_) (fun hc => ?_)
    · refine go_s (pc' := 34) (lv' := [(3, .int (Int32.ofNat j)), (2, .int (fe_v f P j)), (0, .ref 82), (1, .int P)]) (st' := [.int (fe_v f P j)]) (h' := h) rfl rfl rfl ?_
      exact go_ri (v := fe_v f P j) rfl rfl ⟨rfl, rfl⟩
    · exact absurd (show EV.toInt ≤ (Int32.ofNat j).toInt by omega) hc
  | succ m ih =>
    intro j hj
    have ej : (Int32.ofNat j).toInt = j := Int32.toInt_ofNat_of_lt (by omega)
    refine go_s (pc' := 5) (lv' := [(3, .int (Int32.ofNat j)), (2, .int (fe_v f P j)), (0, .ref 82), (1, .int P)]) (st' := [.int (Int32.ofNat j)]) (h' := h) rfl rfl rfl ?_
    refine go_s (pc' := 6) (lv' := [(3, .int (Int32.ofNat j)), (2, .int (fe_v f P j)), (0, .ref 82), (1, .int P)]) (st' := [.ref 82, .int (Int32.ofNat j)]) (h' := h) rfl rfl rfl ?_
    refine go_get (i := _) (ci := 10) (k := 3) (ix := _) rfl h82 w3 ?_
    refine go_ic (c := .ge) (off := 24) (tgt := 33) rfl rfl (fun hc => ?_) (fun _ => ?_)
    · have hc : EV.toInt ≤ (Int32.ofNat j).toInt := hc
      omega
    · refine go_s (pc' := 13) (lv' := [(3, .int (Int32.ofNat j)), (2, .int (fe_v f P j)), (0, .ref 82), (1, .int P)]) (st' := [.int (fe_v f P j)]) (h' := h) rfl rfl rfl ?_
      refine go_s (pc' := 14) (lv' := [(3, .int (Int32.ofNat j)), (2, .int (fe_v f P j)), (0, .ref 82), (1, .int P)]) (st' := [.ref 82, .int (fe_v f P j)]) (h' := h) rfl rfl rfl ?_
      refine go_get (i := _) (ci := 10) (k := 7) (ix := _) rfl h82 w8 ?_
      refine go_s (pc' := 18) (lv' := [(3, .int (Int32.ofNat j)), (2, .int (fe_v f P j)), (0, .ref 82), (1, .int P)]) (st' := [.int (Int32.ofNat j), .ref 88, .int (fe_v f P j)]) (h' := h) rfl rfl rfl ?_
      refine go_ial (v := f j) rfl h89 (sx_ab_in (by omega) (by omega)).1 (by show f (Int32.ofNat j).toInt.toNat = f j; rw [ej]; rfl) ?_
      refine go_s (pc' := 20) (lv' := [(3, .int (Int32.ofNat j)), (2, .int (fe_v f P j)), (0, .ref 82), (1, .int P)]) (st' := [.int P, .int (f j), .int (fe_v f P j)]) (h' := h) rfl rfl rfl ?_
      refine go_s (pc' := 21) (lv' := [(3, .int (Int32.ofNat j)), (2, .int (fe_v f P j)), (0, .ref 82), (1, .int P)]) (st' := [.int (f j >>> (P &&& 31)), .int (fe_v f P j)]) (h' := h) rfl rfl rfl ?_
      refine go_s (pc' := 22) (lv' := [(3, .int (Int32.ofNat j)), (2, .int (fe_v f P j)), (0, .ref 82), (1, .int P)]) (st' := [.int 1, .int (f j >>> (P &&& 31)), .int (fe_v f P j)]) (h' := h) rfl rfl rfl ?_
      refine go_s (pc' := 23) (lv' := [(3, .int (Int32.ofNat j)), (2, .int (fe_v f P j)), (0, .ref 82), (1, .int P)]) (st' := [.int ((f j >>> (P &&& 31)) &&& 1), .int (fe_v f P j)]) (h' := h) rfl rfl rfl ?_
      refine go_s (pc' := 24) (lv' := [(3, .int (Int32.ofNat j)), (2, .int (fe_v f P j)), (0, .ref 82), (1, .int P)]) (st' := [.int (Int32.ofNat j), .int ((f j >>> (P &&& 31)) &&& 1), .int (fe_v f P j)]) (h' := h) rfl rfl rfl ?_
      refine go_s (pc' := 25) (lv' := [(3, .int (Int32.ofNat j)), (2, .int (fe_v f P j)), (0, .ref 82), (1, .int P)]) (st' := [.int (((f j >>> (P &&& 31)) &&& 1) <<< (Int32.ofNat j &&& 31)), .int (fe_v f P j)]) (h' := h) rfl rfl rfl ?_
      refine go_s (pc' := 26) (lv' := [(3, .int (Int32.ofNat j)), (2, .int (fe_v f P j)), (0, .ref 82), (1, .int P)]) (st' := [.int (fe_v f P (j + 1))]) (h' := h) rfl rfl rfl ?_
      refine go_s (pc' := 27) (lv' := [(2, .int (fe_v f P (j + 1))), (3, .int (Int32.ofNat j)), (0, .ref 82), (1, .int P)]) (st' := []) (h' := h) rfl rfl rfl ?_
      have es : Int32.ofNat j + Int32.ofInt 1 = Int32.ofNat (j + 1) := by
        refine Int32.toInt_inj.mp ?_
        rw [Int32.toInt_add, ej, show (Int32.ofInt 1).toInt = 1 from rfl, Int32.toInt_ofNat_of_lt (by omega), sx_bm (by omega) (by omega)]
        omega
      refine go_s (pc' := 30) (lv' := [(3, .int (Int32.ofNat (j + 1))), (2, .int (fe_v f P (j + 1))), (0, .ref 82), (1, .int P)]) (st' := []) (h' := h) rfl rfl (by rw [← es]; rfl) ?_
      refine go_goto (off := -26) (tgt := 4) rfl rfl ?_
      exact ih (j + 1) (by omega)
theorem ta_run {d : Nat} {h : ab_H} {ws : List Value} {EV P : Int32} {f : Nat → Int32} {n : Nat} (hn : n ≤ 16) (he : EV.toInt = n) (h82 : ab_rd h 82 = some (.inr (10, ws))) (w3 : ws[3]? = some (.int EV)) (w8 : ws[7]? = some (.ref 88)) (h89 : ab_rd h 88 = some (.inl (0, 16, .inl f))) : ab_go d ab_M_X10_taking 0 [(0, .ref 82), (1, .int P)] [] h (fun r h' => r = some (.int (fe_v f P n)) ∧ h' = h) := by
  refine go_s (pc' := 1) (lv' := [(0, .ref 82), (1, .int P)]) (st' := [.int 0]) (h' := h) rfl rfl rfl ?_
  refine go_s (pc' := 2) (lv' := [(2, .int 0), (0, .ref 82), (1, .int P)]) (st' := []) (h' := h) rfl rfl rfl ?_
  refine go_s (pc' := 3) (lv' := [(2, .int 0), (0, .ref 82), (1, .int P)]) (st' := [.int 0]) (h' := h) rfl rfl rfl ?_
  refine go_s (pc' := 4) (lv' := [(3, .int (Int32.ofNat 0)), (2, .int (fe_v f P 0)), (0, .ref 82), (1, .int P)]) (st' := []) (h' := h) rfl rfl rfl ?_
  exact ta_go hn he h82 w3 w8 h89 n 0 (by omega)
