/-! ===== layRight, whole ===== -/
def nr_L (h : ab_H) : Prop := ∃ (ws : List Value) (lvs : Nat → Int32) (W ST : Nat), ab_rd h 82 = some (.inr (10, ws)) ∧ ab_rd h 101 = some (.inl (0, 200, .inl lvs)) ∧ ws[0]? = some (.int (Int32.ofNat W)) ∧ ws[32]? = some (.int (Int32.ofNat ST)) ∧ ll_G W ST lvs ∧ W ≤ 6 ∧ ST ≤ 200
def nr_T (z L : Nat) (xs : Nat → Int32) : Prop := ∀ K', sx_mem sx_KT2 K' → K'.2.2.2.1 < 12 → sx_holds sx_SP z L xs K'
section NR
variable {z L : Nat} {xs : Nat → Int32} {h : ab_H}
theorem nr_196 (T : nr_T z L xs) : sx_holds sx_SP z L xs kc_196 := T _ (show kc_196 ∈ sx_of sx_KT2 kc_196.1 from List.mem_cons_self) (by decide)
theorem nr_204 (T : nr_T z L xs) : sx_holds sx_SP z L xs kc_204 := T _ (show kc_204 ∈ sx_of sx_KT2 kc_204.1 from List.mem_cons_self) (by decide)
theorem nr_230 (T : nr_T z L xs) : sx_holds sx_SP z L xs kc_230 := T _ (show kc_230 ∈ sx_of sx_KT2 kc_230.1 from List.mem_cons_self) (by decide)
theorem nr_250 (T : nr_T z L xs) : sx_holds sx_SP z L xs kc_250 := T _ (show kc_250 ∈ sx_of sx_KT2 kc_250.1 from List.mem_cons_self) (by decide)
theorem nr_cal_ls {rest ws : List Value} (hw : (rest.map fun v => v.category).sum ≤ 8) (h82 : ab_rd h 82 = some (.inr (10, ws))) {i ix : Nat} : ab_cal ab_G (ab_c (.invokevirtual i) 0 173 0 ix) (.ref 82 :: rest) h = some (ab_M_X10_layStates, [.ref 82], rest) := ab_cal_v (As := []) rfl (show ab_G 173 = some ab_M_X10_layStates from rfl) rfl h82 rfl rfl (by unfold ab_cok; rw [Bool.and_eq_true]; exact ⟨rfl, decide_eq_true hw⟩) rfl
theorem nr_ans {β : Nat → Int} {r : Option Value} {h' : ab_H} (g : sx_post sx_SP z L xs kc_196 β h r h') : ∃ x : Int32, r = some (.int x) := by
  obtain ⟨O, hO, β1, -, g1, -⟩ := g
  have hO : O ∈ kc_196.2.2.2.2 := hO
  unfold kc_196 at hO
  dsimp only at hO
  rcases List.mem_cons.mp hO with rfl | hO
  · exact nw_int g1
  rcases List.mem_cons.mp hO with rfl | hO
  · exact nw_int g1
  rcases List.mem_cons.mp hO with rfl | hO
  · exact nw_int g1
  cases hO
theorem nr_run (T : nr_T z L xs) (hh : sx_h sx_SP z L xs h) (d : Nat) : ab_go (d + 2) ab_M_X10_layRight 0 [(0, .ref 82)] [] h (fun r h' => sx_post sx_SP z L xs kc_204 (fun _ => 0) h r h' ∧ nr_L h') := by
  refine pa_go (nw_use (nr_204 T) rfl rfl (show 2 ≤ d + 2 by omega) hh) (fun N => ?_)
  obtain ⟨ws0, r0, -⟩ := nw_ws hh
  refine pa_s (pc' := 1) (lv' := [(0, .ref 82)]) (st' := [.ref 82]) (h' := h) rfl rfl rfl ?_
  refine pa_s (pc' := 2) (lv' := [(0, .ref 82)]) (st' := [.ref 82, .ref 82]) (h' := h) rfl rfl rfl ?_
  refine pa_c rfl rfl (nr_cal_ls (rest := [.ref 82]) (show 1 ≤ 8 by decide) r0) rfl (nw_use (d := d + 1) (nr_196 T) rfl rfl (show 1 ≤ d + 1 by omega) hh) (fun r h1 hp => ?_)
  obtain ⟨x, rfl⟩ := nr_ans hp
  obtain ⟨hh1, -⟩ := nw_h hp
  obtain ⟨ws, r1, hF⟩ := nw_ws hh1
  obtain ⟨W, eW, bW⟩ := hF.n (k := 0) (b := 6) (l := []) rfl
  obtain ⟨EV, eE, bE⟩ := hF.n (k := 3) (b := 16) (l := []) rfl
  obtain ⟨ST, eS, bS⟩ := hF.n (k := 32) (b := 200) (l := []) rfl
  obtain ⟨wi, rwi, -⟩ := nw_a (a := 85) (t := 0) (m := 16) rfl (by decide) (by decide) hh1
  obtain ⟨nx, rnx, -⟩ := nw_a (a := 100) (t := 0) (m := 3200) rfl (by decide) (by decide) hh1
  obtain ⟨lvs, rlv, -⟩ := nw_a (a := 101) (t := 0) (m := 200) rfl (by decide) (by decide) hh1
  obtain ⟨va, rva, hva⟩ := nw_a (a := 86) (t := 0) (m := 16) rfl (by decide) (by decide) hh1
  obtain ⟨fl, rfl', -⟩ := nw_a (a := 102) (t := 3) (m := 200) rfl (by decide) (by decide) hh1
  have hq : ll_Q ws EV ST := ⟨eE, hF.r rfl, hF.r rfl, hF.r rfl, eS, hF.r rfl, hF.r rfl⟩
  show ab_pa N (d + 1 + 1) ab_M_X10_layRight 5 [(0, .ref 82)] [.int x, .ref 82] h1 _
  refine lr_5 hq eW (by rw [← hF.1]; decide) (by omega) (by omega) (fun j hj => ?_) (fun r h2 hS => ?_) (⟨r1, rwi, rnx, rlv, rva, rfl'⟩ : ll_M h1 ws wi nx lvs va fl) rfl
  · obtain ⟨q1, q2⟩ := nw_pc (hva j hj)
    rcases (show (va j).toInt = 0 ∨ (va j).toInt = 1 by omega) with q | q
    · exact Or.inl (Int32.toInt_inj.mp q)
    · exact Or.inr (Int32.toInt_inj.mp q)
  · obtain ⟨ws2, lvs2, fl2, m2, hw2, -, hG⟩ := hS
    exact ⟨ws2, lvs2, W, ST, m2.1, m2.2.2.2.1, (hw2.2 0 (by decide)).trans eW, (hw2.2 32 (by decide)).trans eS, hG, by omega, by omega⟩
theorem nr_01 {β : Nat → Int} {r : Option Value} {h' : ab_H} (g : sx_post sx_SP z L xs kc_204 β h r h') : ∃ x : Int32, r = some (.int x) ∧ 0 ≤ x.toInt ∧ x.toInt ≤ 1 := by
  obtain ⟨O, hO, β1, -, g1, -⟩ := g
  have hO : O ∈ kc_204.2.2.2.2 := hO
  unfold kc_204 at hO
  dsimp only at hO
  rw [List.mem_singleton] at hO
  subst hO
  exact nw_r g1
end NR
