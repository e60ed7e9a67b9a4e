/-! ===== makes ===== -/
def nq_S (a b : Int) : sx_S := ([(0, .inr (1, 82)), (1, .inl (0, sx_Y 1)), (2, .inl (0, sx_Y 2))], [], [], [], [(1, 0, 5), (2, a, b)], [], 3)
def nq_S0 : sx_S := ([(0, .inr (1, 82)), (1, .inl (0, sx_Y 1)), (2, .inl (0, sx_Y 2))], [], [], [], [(1, (-2147483648), 2147483647), (2, (-2147483648), 2147483647)], [], 3)
theorem nq_r0 : sx_run sx_SP sx_KT2 kc_309 ab_M_X10_makes [(34, nq_S 0 1, (0, [])), (34, nq_S 10 73, (0, []))] none 300 0 nq_S0 = true := by decide +kernel
section NQ
variable {z L : Nat} {xs : Nat → Int32} {h h' h0 : ab_H} {β : Nat → Int}
theorem nq_sub {m : Nat} (h : m < 1000) : Int32.ofNat (m + 10) - 10 = Int32.ofNat m := by
  apply Int32.toInt_inj.mp
  rw [Int32.toInt_sub, mk_i (by omega), mk_i (by omega), show (10 : Int32).toInt = 10 from rfl, sx_bm (by omega) (by omega)]
  omega
theorem nq_ret {x : Int32} (hh : sx_h sx_SP z L xs h') (hf : sx_fr kc_309.2.2.1 h0 h') : sx_post sx_SP z L xs kc_309 β h0 (some (.int x)) h' := by
  refine ⟨_, show _ ∈ kc_309.2.2.2.2 from List.mem_cons_self, sx_bu β 3 x.toInt, sx_bu_ag, ⟨fun q hq => (by cases hq), ⟨?_, trivial⟩, fun q hq => (by cases hq), fun q hq => (by cases hq), fun q hq => ?_, fun q hq => (by cases hq), hh⟩, hf⟩
  · show x.toInt = sx_ev (sx_bu β 3 x.toInt) (sx_Y 3)
    rw [sx_ev_Y]
    exact (if_pos rfl).symm
  · have hq : q ∈ [((3 : Nat), ((-2147483648) : Int), (2147483647 : Int))] := hq
    rw [List.mem_singleton] at hq
    subst hq
    show (-2147483648 : Int) ≤ sx_bu β 3 x.toInt 3 ∧ sx_bu β 3 x.toInt 3 ≤ 2147483647
    rw [show sx_bu β 3 x.toInt 3 = x.toInt from if_pos rfl]
    exact nw_pc (nw_32 x)
theorem nq_cal_lr {rest ws : List Value} (hw : (rest.map fun v => v.category).sum ≤ 8) (h82 : ab_rd h 82 = some (.inr (10, ws))) {i ix : Nat} : ab_cal ab_G (ab_c (.invokevirtual i) 0 175 0 ix) (.ref 82 :: rest) h = some (ab_M_X10_layRight, [.ref 82], rest) := ab_cal_v (As := []) rfl (show ab_G 175 = some ab_M_X10_layRight from rfl) rfl h82 rfl rfl (by unfold ab_cok; rw [Bool.and_eq_true]; exact ⟨rfl, decide_eq_true hw⟩) rfl
theorem nq_cal_la {P : Int32} {rest ws : List Value} (hw : (rest.map fun v => v.category).sum ≤ 8) (h82 : ab_rd h 82 = some (.inr (10, ws))) {i ix : Nat} : ab_cal ab_G (ab_c (.invokevirtual i) 0 188 1 ix) (.int P :: .ref 82 :: rest) h = some (ab_M_X10_layAims, [.ref 82, .int P], rest) := ab_cal_v (As := [.int P]) rfl (show ab_G 188 = some ab_M_X10_layAims from rfl) rfl h82 rfl rfl (by unfold ab_cok; rw [Bool.and_eq_true]; exact ⟨rfl, decide_eq_true hw⟩) rfl
theorem nq_cal_lm {m : Nat} (hG : ab_G m = some ab_M_X10_layMakes) {rest ws : List Value} (hw : (rest.map fun v => v.category).sum ≤ 8) (h82 : ab_rd h 82 = some (.inr (10, ws))) {i ix : Nat} : ab_cal ab_G (ab_c (.invokevirtual i) 0 m 0 ix) (.ref 82 :: rest) h = some (ab_M_X10_layMakes, [.ref 82], rest) := ab_cal_v (As := []) rfl (show ab_G m = some ab_M_X10_layMakes from hG) rfl h82 rfl rfl (by unfold ab_cok; rw [Bool.and_eq_true]; exact ⟨rfl, decide_eq_true hw⟩) rfl
theorem nq_cal_ca {m : Nat} (hG : ab_G m = some ab_M_X10_cubeAt) {P : Int32} {rest ws : List Value} (hw : (rest.map fun v => v.category).sum ≤ 8) (h82 : ab_rd h 82 = some (.inr (10, ws))) {i ix : Nat} : ab_cal ab_G (ab_c (.invokevirtual i) 0 m 1 ix) (.int P :: .ref 82 :: rest) h = some (ab_M_X10_cubeAt, [.ref 82, .int P], rest) := ab_cal_v (As := [.int P]) rfl (show ab_G m = some ab_M_X10_cubeAt from hG) rfl h82 rfl rfl (by unfold ab_cok; rw [Bool.and_eq_true]; exact ⟨rfl, decide_eq_true hw⟩) rfl
/-- bits that are on stand among the levels; where no bit is on and off, none of them is off -/
theorem nq_lt {wi nx lvs : Nat → Int32} {EV ST W : Nat} {w : Int32} {A B : Int64} (b : nb lvs EV ST W) (hI : am_I wi nx lvs EV ST w A B) {l : Nat} (hl : l < 64) (hA : mk_bt A l = true) : l < 2 ^ W := by
  obtain ⟨s, h1, h2, -⟩ := hI.1 l hl hA
  obtain ⟨k, k1, k2⟩ := b.2.2.2.1 s h1
  rw [h2] at k2
  have hp : 2 ^ W ≤ 2 ^ 6 := Nat.pow_le_pow_right (by decide) b.2.2.1
  have q := congrArg Int32.toInt k2
  rw [mk_i (by omega), mk_i (by omega)] at q
  omega
theorem nq_off {A B : Int64} (h : A &&& B = 0) {l : Nat} (hA : mk_bt A l = true) : mk_bt B l = false := by
  have q : mk_bt (A &&& B) l = (mk_bt A l && mk_bt B l) := by
    unfold mk_bt
    rw [Int64.toBitVec_and, BitVec.getLsbD_and]
  rw [h, hA, Bool.true_and] at q
  rw [← q]
  unfold mk_bt
  simp
theorem nq_34 (T : nr_T z L xs) (hh : sx_h sx_SP z L xs h0) (d : Nat) {lv : ab_L} {w : Int32} {y : Nat} (hw : 0 ≤ w.toInt ∧ w.toInt ≤ 5) (hy : y ≤ 1 ∨ 10 ≤ y ∧ y ≤ 73) (f0 : ab_lk lv 0 = some (.ref 82)) (f1 : ab_lk lv 1 = some (.int w)) (f2 : ab_lk lv 2 = some (.int (Int32.ofNat y))) (hf0 : sx_fr kc_309.2.2.1 h h0) : ab_go (d + 4) ab_M_X10_makes 34 lv [] h0 (sx_post sx_SP z L xs kc_309 β h) := by
  obtain ⟨ws0, r0, -⟩ := nw_ws hh
  refine go_s (pc' := 35) (lv' := lv) (st' := [.ref 82]) (h' := h0) rfl rfl (ig_ald f0) ?_
  refine go_c rfl rfl (nq_cal_lr (rest := []) (show 0 ≤ 8 by decide) r0) rfl (nr_run T hh (d + 1)) (fun r h1 hp => ?_)
  obtain ⟨p1, hL⟩ := hp
  obtain ⟨hh1, hf1⟩ := nw_h p1
  have hf1 := hf0.tr (hf1.sub (Mo := kc_309.2.2.1) (by decide))
  obtain ⟨x, rfl, -⟩ := nr_01 p1
  refine go_if (c := .ne) (off := 6) (tgt := 44) rfl rfl (fun _ => ?_) (fun _ => ?_)
  rotate_left
  · refine go_s (pc' := 43) (lv' := lv) (st' := [.int (-2)]) (h' := h1) rfl rfl rfl ?_
    exact go_ri rfl rfl (nq_ret hh1 hf1)
  obtain ⟨wi, nx, lvs, ow, EV, ST, W, g1, b⟩ := ns_of hh1 hL
  obtain ⟨ws1, r1, -⟩ := nw_ws hh1
  refine go_s (pc' := 45) (lv' := lv) (st' := [.ref 82]) (h' := h1) rfl rfl (ig_ald f0) ?_
  refine go_s (pc' := 46) (lv' := lv) (st' := [.int w, .ref 82]) (h' := h1) rfl rfl (po_ild (nL := 0) f1) ?_
  refine go_c rfl rfl (nq_cal_la (rest := []) (show 0 ≤ 8 by decide) r1) rfl (na_run T hh1 g1 b hw (d + 1)) (fun r h2 hp => ?_)
  obtain ⟨rfl, hh2, hf2, g2, ws2, A, B, r2, h47, h48, hI⟩ := hp
  have hf2 := hf1.tr (hf2.sub (Mo := kc_309.2.2.1) (by decide))
  show ab_go (d + 4) ab_M_X10_makes 49 lv [] h2 _
  refine go_s (pc' := 50) (lv' := lv) (st' := [.ref 82]) (h' := h2) rfl rfl (ig_ald f0) ?_
  refine go_get (ci := 10) (k := 47) rfl r2 h47 ?_
  refine go_s (pc' := 54) (lv' := lv) (st' := [.ref 82, .long A]) (h' := h2) rfl rfl (ig_ald f0) ?_
  refine go_get (ci := 10) (k := 48) rfl r2 h48 ?_
  refine go_s (pc' := 58) (lv' := lv) (st' := [.long (A &&& B)]) (h' := h2) rfl rfl rfl ?_
  refine go_s (pc' := 59) (lv' := lv) (st' := [.long 0, .long (A &&& B)]) (h' := h2) rfl rfl rfl ?_
  refine go_s (pc' := 60) (lv' := lv) (st' := [.int (lg_cmp (A &&& B) 0)]) (h' := h2) rfl rfl rfl ?_
  refine go_ifl (c := .eq) (off := 6) (tgt := 66) rfl rfl (fun hq => ?_) (fun _ => ?_)
  rotate_left
  · refine go_s (pc' := 65) (lv' := lv) (st' := [.int (-2)]) (h' := h2) rfl rfl rfl ?_
    exact go_ri rfl rfl (nq_ret hh2 hf2)
  have hAB : A &&& B = 0 := Int64.toInt_inj.mp hq
  refine go_s (pc' := 67) (lv' := lv) (st' := [.ref 82]) (h' := h2) rfl rfl (ig_ald f0) ?_
  refine go_c rfl rfl (nq_cal_lm (by rfl) (rest := []) (show 0 ≤ 8 by decide) r2) rfl (nm_run hh2 g2 b r2 h47 h48 (fun l hl hA => ⟨nq_lt b hI hl hA, nq_off hAB hA⟩) (d + 1)) (fun r h3 hp => ?_)
  obtain ⟨rfl, hh3, hf3, g3, P⟩ := hp
  have hf3 := hf2.tr (hf3.sub (Mo := kc_309.2.2.1) (by decide))
  have P0 := P
  obtain ⟨ws3, cu, co, cl, n, J, l, mS, hmw, hcl, h103, hW, hF, h57, h58, bJ, bl, hcan, hmin⟩ := P
  have r3 : ab_rd h3 82 = some (.inr (10, ws3)) := by
    obtain ⟨_, _, _, _, mm1, -⟩ := mS
    exact mm1.1
  show ab_go (d + 4) ab_M_X10_makes 70 lv [] h3 _
  refine go_s (pc' := 71) (lv' := lv) (st' := [.int (Int32.ofNat y)]) (h' := h3) rfl rfl (po_ild (nL := 0) f2) ?_
  refine go_if (c := .ne) (off := 10) (tgt := 81) rfl rfl (fun hne0 => ?_) (fun _ => ?_)
  rotate_left
  · refine go_s (pc' := 75) (lv' := lv) (st' := [.ref 82]) (h' := h3) rfl rfl (ig_ald f0) ?_
    refine go_get (ci := 10) (k := 57) rfl r3 h57 ?_
    refine go_goto (off := 39) (tgt := 117) rfl rfl ?_
    exact go_ri rfl rfl (nq_ret hh3 hf3)
  refine go_s (pc' := 82) (lv' := lv) (st' := [.int (Int32.ofNat y)]) (h' := h3) rfl rfl (po_ild (nL := 0) f2) ?_
  refine go_s (pc' := 83) (lv' := lv) (st' := [.int 1, .int (Int32.ofNat y)]) (h' := h3) rfl rfl rfl ?_
  refine go_ic (c := .ne) (off := 10) (tgt := 93) rfl rfl (fun hne1 => ?_) (fun _ => ?_)
  rotate_left
  · refine go_s (pc' := 87) (lv' := lv) (st' := [.ref 82]) (h' := h3) rfl rfl (ig_ald f0) ?_
    refine go_get (ci := 10) (k := 58) rfl r3 h58 ?_
    refine go_goto (off := 27) (tgt := 117) rfl rfl ?_
    exact go_ri rfl rfl (nq_ret hh3 hf3)
  have hne0 : ¬ (Int32.ofNat y).toInt = 0 := hne0
  have hne1 : ¬ (Int32.ofNat y).toInt = (1 : Int32).toInt := hne1
  rw [mk_i (by omega)] at hne0 hne1
  rw [show (1 : Int32).toInt = 1 from rfl] at hne1
  obtain ⟨a, rfl⟩ : ∃ a, y = a + 10 := ⟨y - 10, by omega⟩
  refine go_s (pc' := 94) (lv' := lv) (st' := [.int (Int32.ofNat (a + 10))]) (h' := h3) rfl rfl (po_ild (nL := 0) f2) ?_
  refine go_s (pc' := 96) (lv' := lv) (st' := [.int 10, .int (Int32.ofNat (a + 10))]) (h' := h3) rfl rfl rfl ?_
  refine go_s (pc' := 97) (lv' := lv) (st' := [.int (Int32.ofNat a)]) (h' := h3) rfl rfl (by show some (_, _, Value.int (Int32.ofNat (a + 10) - 10) :: _, _) = _; rw [nq_sub (by omega)]) ?_
  refine go_s (pc' := 98) (lv' := lv) (st' := [.ref 82, .int (Int32.ofNat a)]) (h' := h3) rfl rfl (ig_ald f0) ?_
  refine go_get (ci := 10) (k := 57) rfl r3 h57 ?_
  refine go_ic (c := .ge) (off := 14) (tgt := 115) rfl rfl (fun _ => ?_) (fun hlt => ?_)
  · refine go_s (pc' := 117) (lv' := lv) (st' := [.int (-4)]) (h' := h3) rfl rfl rfl ?_
    exact go_ri rfl rfl (nq_ret hh3 hf3)
  have hlt : ¬ (Int32.ofNat J).toInt ≤ (Int32.ofNat a).toInt := hlt
  rw [mk_i (by omega), mk_i (by omega)] at hlt
  refine go_s (pc' := 105) (lv' := lv) (st' := [.ref 82]) (h' := h3) rfl rfl (ig_ald f0) ?_
  refine go_s (pc' := 106) (lv' := lv) (st' := [.int (Int32.ofNat (a + 10)), .ref 82]) (h' := h3) rfl rfl (po_ild (nL := 0) f2) ?_
  refine go_s (pc' := 108) (lv' := lv) (st' := [.int 10, .int (Int32.ofNat (a + 10)), .ref 82]) (h' := h3) rfl rfl rfl ?_
  refine go_s (pc' := 109) (lv' := lv) (st' := [.int (Int32.ofNat a), .ref 82]) (h' := h3) rfl rfl (by show some (_, _, Value.int (Int32.ofNat (a + 10) - 10) :: _, _) = _; rw [nq_sub (by omega)]) ?_
  refine go_c rfl rfl (nq_cal_ca (by rfl) (rest := []) (show 0 ≤ 8 by decide) r3) rfl (nc_run hh3 P0 r3 h57 bJ (by omega) (d + 1)) (fun r h4 hp => ?_)
  obtain ⟨v, rfl, hh4, hf4⟩ := hp
  have hf4 := hf3.tr (hf4.sub (Mo := kc_309.2.2.1) (by decide))
  show ab_go (d + 4) ab_M_X10_makes 112 lv [.int v] h4 _
  refine go_goto (off := 5) (tgt := 117) rfl rfl ?_
  exact go_ri rfl rfl (nq_ret hh4 hf4)
theorem mk_holds0 (T : nr_T z L xs) : sx_holds sx_SP z L xs kc_309 := by
  refine ⟨⟨by decide +kernel, rfl⟩, fun M hM d hd β As h g => ?_⟩
  have e : M = ab_M_X10_makes := Option.some.inj (hM.symm.trans rfl)
  subst e
  have hd : 12 ≤ d := hd
  obtain ⟨-, g2, -, -, g5, -, hh⟩ := g
  obtain ⟨q, rfl, k1⟩ := sx_pr (β := β) (nx := 3) (st := As) (a := 82) (fun β' hag => (sx_st_ag (n := 3) hag rfl).mpr g2)
  obtain ⟨w, q, rfl, kw, k2⟩ := sx_pi k1
  obtain ⟨y, q, rfl, ky, k3⟩ := sx_pi k2
  rw [ig_st0 (k3 β sx_ag.rf)]
  have kw := kw β sx_ag.rf
  have ky := ky β sx_ag.rf
  have kw : w.toInt = β 1 := kw.trans (sx_ev_Y β 1)
  have ky : y.toInt = β 2 := ky.trans (sx_ev_Y β 2)
  show ab_go d ab_M_X10_makes 0 [(0, .ref 82), (1, .int w), (2, .int y)] [] h _
  have gs : sx_at sx_SP z L xs nq_S0 β [(0, .ref 82), (1, .int w), (2, .int y)] [] h := by
    refine ⟨fun q hq => ?_, trivial, fun q hq => (by cases hq), fun q hq => (by cases hq), g5, fun q hq => (by cases hq), hh⟩
    rcases List.mem_cons.mp hq with rfl | hq
    · exact ⟨_, rfl, rfl⟩
    rcases List.mem_cons.mp hq with rfl | hq
    · exact ⟨_, rfl, by show w.toInt = sx_ev β (sx_Y 1); rw [sx_ev_Y]; exact kw⟩
    rcases List.mem_cons.mp hq with rfl | hq
    · exact ⟨_, rfl, by show y.toInt = sx_ev β (sx_Y 2); rw [sx_ev_Y]; exact ky⟩
    cases hq
  refine sx_seg (K := kc_309) (β0 := β) (h0 := h) T hd (fun O hO => ?_) (fun _ _ hp => hp) (fun b hb β2 lv' st h' g' hag hfr' => ?_) 300 0 _ _ _ [] h nq_r0 (sx_wS_ok rfl gs) sx_ag.rf (Nat.le_refl _) sx_fr.rf
  · have hO : O ∈ kc_309.2.2.2.2 := hO
    unfold kc_309 at hO
    dsimp only at hO
    rw [List.mem_singleton] at hO
    subst hO
    rfl
  · obtain ⟨e, rfl⟩ : ∃ e, d = e + 4 := ⟨d - 4, by omega⟩
    have key : ∀ a c : Int, sx_at sx_SP z L xs (nq_S a c) β2 lv' st h' → 0 ≤ a → (∀ v : Nat, a ≤ (v : Int) → (v : Int) ≤ c → v ≤ 1 ∨ 10 ≤ v ∧ v ≤ 73) → ab_go (e + 4) ab_M_X10_makes 34 lv' st h' (sx_post sx_SP z L xs kc_309 β h) := by
      intro a c g ha hac
      have hst := ig_st0 g.2.1
      subst hst
      obtain ⟨w', l1, l2⟩ := g.lkI (i := 1) (e := sx_Y 1) (List.mem_cons_of_mem _ List.mem_cons_self)
      obtain ⟨y', l3, l4⟩ := g.lkI (i := 2) (e := sx_Y 2) (List.mem_cons_of_mem _ (List.mem_cons_of_mem _ List.mem_cons_self))
      rw [sx_ev_Y] at l2 l4
      have n1 := g.2.2.2.2.1 (1, 0, 5) List.mem_cons_self
      have n2 := g.2.2.2.2.1 (2, a, c) (List.mem_cons_of_mem _ List.mem_cons_self)
      have n1 : 0 ≤ β2 1 ∧ β2 1 ≤ 5 := n1
      have n2 : a ≤ β2 2 ∧ β2 2 ≤ c := n2
      have hy0 : 0 ≤ y'.toInt := by omega
      rw [ig_ofn hy0] at l3
      exact nq_34 T g.2.2.2.2.2.2 e (w := w') (y := y'.toInt.toNat) (by omega) (hac _ (by omega) (by omega)) (g.lkR List.mem_cons_self) l1 l3 hfr'
    rcases List.mem_cons.mp hb with rfl | hb
    · exact key 0 1 g' (by decide) (fun v h1 h2 => by omega)
    rcases List.mem_cons.mp hb with rfl | hb
    · exact key 10 73 g' (by decide) (fun v h1 h2 => by omega)
    cases hb
end NQ
