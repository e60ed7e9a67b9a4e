section QU
variable {d : Nat} {h0 : ab_H} {ws0 : List Value} {wi nx lvs ow : Nat → Int32} {EV ST W : Nat} {Q : Option Value → ab_H → Prop}
theorem qu_in (hq0 : am_Q ws0 EV ST) (hl0 : 42 < ws0.length) (hE : EV ≤ 16) (hS : ST ≤ 200) (hW0 : ws0[0]? = some (.int (Int32.ofNat W))) (hW2 : ws0[2]? = some (.ref 84)) (hW : W ≤ 6) {i : Nat} (hi : i < ST)
    (kk : ∀ (c : Nat) (h : ab_H) (lv : ab_L), c ≤ 200 * i + ST → qu_S h0 ws0 wi nx lvs ow c h → qu_I wi nx lvs ow EV ST W i ST c → ab_lk lv 0 = some (.ref 82) → ab_lk lv 1 = some (.int (Int32.ofNat i)) → ab_go (d + 2) ab_M_X10_layQuarrels 142 lv [] h Q) :
    ∀ (r j c : Nat) (h : ab_H) (lv : ab_L), i < j → j + r = ST → c ≤ 200 * i + j → qu_S h0 ws0 wi nx lvs ow c h → qu_I wi nx lvs ow EV ST W i j c → ab_lk lv 0 = some (.ref 82) → ab_lk lv 1 = some (.int (Int32.ofNat i)) → ab_lk lv 2 = some (.int (Int32.ofNat j)) → ab_go (d + 2) ab_M_X10_layQuarrels 36 lv [] h Q := by
  intro r
  induction r with
  | zero =>
    intro j c h lv hij hr hc S hI f0 f1 f2
    have S0 := S
    obtain ⟨ws, x39, x41, x42, m, m84, hw, hF, hx⟩ := S
    have hq := hw.q hq0
    obtain rfl : j = ST := hr
    refine go_s (pc' := 37) (lv' := lv) (st' := [.int (Int32.ofNat j)]) (h' := h) rfl rfl (po_ild (nL := 0) f2) ?_
    refine go_s (pc' := 38) (lv' := lv) (st' := [.ref 82, .int (Int32.ofNat j)]) (h' := h) rfl rfl (ig_ald f0) ?_
    refine go_get (ci := 10) (k := 32) rfl m.1 hq.2.2.2.2 ?_
    exact go_ic (c := .ge) (off := 101) (tgt := 142) rfl rfl (fun _ => kk c h lv hc S0 hI f0 f1) (fun q => absurd (Int.le_refl _) q)
  | succ r ih =>
    intro j c h lv hij hr hc S hI f0 f1 f2
    have j136 : ∀ (c' : Nat) (h : ab_H) (lv : ab_L), c' ≤ 200 * i + j + 1 → qu_S h0 ws0 wi nx lvs ow c' h → qu_I wi nx lvs ow EV ST W i (j + 1) c' → ab_lk lv 0 = some (.ref 82) → ab_lk lv 1 = some (.int (Int32.ofNat i)) → ab_lk lv 2 = some (.int (Int32.ofNat j)) → ab_go (d + 2) ab_M_X10_layQuarrels 136 lv [] h Q := by
      intro c' h lv hc S hI f0 f1 f2
      refine go_s (pc' := 139) (lv' := (ab_s1 2 (.int (Int32.ofNat (j + 1))) lv)) (st' := []) (h' := h) rfl rfl (mk_inc1 (by decide) (by omega) f2) ?_
      have f2 : ab_lk (ab_s1 2 (.int (Int32.ofNat (j + 1))) lv) 2 = some (.int (Int32.ofNat (j + 1))) := mk_s1s
      have f0 := po_s1_other (v := .int (Int32.ofNat (j + 1))) (i := 2) f0 (by decide) (fun q => absurd q.1 (by decide))
      have f1 := po_s1_other (v := .int (Int32.ofNat (j + 1))) (i := 2) f1 (by decide) (fun q => absurd q.2 (show ¬ (1 : Nat) = 2 by decide))
      generalize ab_s1 2 (.int (Int32.ofNat (j + 1))) lv = lv1 at f0 f1 f2 ⊢
      refine go_goto (off := -103) (tgt := 36) rfl rfl ?_
      exact ih (j + 1) c' h lv1 (by omega) (by omega) (by omega) S hI f0 f1 f2
    have j126 : ∀ (h : ab_H) (lv : ab_L), qu_S h0 ws0 wi nx lvs ow c h → ab_lk lv 0 = some (.ref 82) → ab_lk lv 1 = some (.int (Int32.ofNat i)) → ab_lk lv 2 = some (.int (Int32.ofNat j)) → ab_go (d + 2) ab_M_X10_layQuarrels 126 lv [] h Q := by
      intro h lv S f0 f1 f2
      obtain ⟨ws, x39, x41, x42, m, m84, hw, hF, hx⟩ := S
      have hq := hw.q hq0
      refine go_s (pc' := 127) (lv' := lv) (st' := [.ref 82]) (h' := h) rfl rfl (ig_ald f0) ?_
      refine go_s (pc' := 128) (lv' := lv) (st' := [.ref 82, .ref 82]) (h' := h) rfl rfl rfl ?_
      refine go_get (ci := 10) (k := 40) rfl m.1 hx.2.1 ?_
      refine go_s (pc' := 132) (lv' := lv) (st' := [.int 1, .int (Int32.ofNat c), .ref 82]) (h' := h) rfl rfl rfl ?_
      refine go_s (pc' := 133) (lv' := lv) (st' := [.int (Int32.ofNat (c + 1)), .ref 82]) (h' := h) rfl rfl (by show some (_, _, Value.int (Int32.ofNat c + Int32.ofInt 1) :: _, _) = _; rw [mk_inc (by omega)]) ?_
      refine go_put rfl m.1 (show 40 < ws.length by rw [hw.1]; omega) lm_fit ?_
      exact j136 (c + 1) _ lv (by omega) ⟨_, _, _, _, m.w82 _, (ab_rd_other (by decide)).trans m84, hw.st (by decide) _, hF.wr _, (List.getElem?_set_ne (by decide)).trans hx.1, List.getElem?_set_self (by rw [hw.1]; omega), (List.getElem?_set_ne (by decide)).trans hx.2.2.1, (List.getElem?_set_ne (by decide)).trans hx.2.2.2⟩ (fun z => absurd z (by omega)) f0 f1 f2
    have j107 : ∀ (h : ab_H) (lv : ab_L), qu_S h0 ws0 wi nx lvs ow c h → ab_lk lv 0 = some (.ref 82) → ab_lk lv 1 = some (.int (Int32.ofNat i)) → ab_lk lv 2 = some (.int (Int32.ofNat j)) → ab_go (d + 2) ab_M_X10_layQuarrels 107 lv [] h Q := by
      intro h lv S f0 f1 f2
      obtain ⟨ws, x39, x41, x42, m, m84, hw, hF, hx⟩ := S
      have hq := hw.q hq0
      have fin : ∀ y : Int32, ab_go (d + 2) ab_M_X10_layQuarrels 123 lv [.int y, .ref 82] h Q := fun y => by
        refine go_put rfl m.1 (show 42 < ws.length by rw [hw.1]; omega) lm_fit ?_
        exact j126 _ lv ⟨_, _, _, _, m.w82 _, (ab_rd_other (by decide)).trans m84, hw.st (by decide) _, hF.wr _, (List.getElem?_set_ne (by decide)).trans hx.1, (List.getElem?_set_ne (by decide)).trans hx.2.1, (List.getElem?_set_ne (by decide)).trans hx.2.2.1, List.getElem?_set_self (by rw [hw.1]; omega)⟩ f0 f1 f2
      refine go_s (pc' := 108) (lv' := lv) (st' := [.ref 82]) (h' := h) rfl rfl (ig_ald f0) ?_
      refine go_s (pc' := 109) (lv' := lv) (st' := [.ref 82, .ref 82]) (h' := h) rfl rfl (ig_ald f0) ?_
      refine go_get (ci := 10) (k := 40) rfl m.1 hx.2.1 ?_
      refine go_if (c := .ne) (off := 7) (tgt := 119) rfl rfl (fun _ => ?_) (fun _ => ?_)
      · refine go_s (pc' := 120) (lv' := lv) (st' := [.ref 82, .ref 82]) (h' := h) rfl rfl (ig_ald f0) ?_
        refine go_get (ci := 10) (k := 42) rfl m.1 hx.2.2.2 ?_
        exact fin _
      · refine go_s (pc' := 116) (lv' := lv) (st' := [.int (Int32.ofNat j), .ref 82]) (h' := h) rfl rfl (po_ild (nL := 0) f2) ?_
        refine go_goto (off := 7) (tgt := 123) rfl rfl ?_
        exact fin _
    have j88 : ∀ (h : ab_H) (lv : ab_L), qu_S h0 ws0 wi nx lvs ow c h → ab_lk lv 0 = some (.ref 82) → ab_lk lv 1 = some (.int (Int32.ofNat i)) → ab_lk lv 2 = some (.int (Int32.ofNat j)) → ab_go (d + 2) ab_M_X10_layQuarrels 88 lv [] h Q := by
      intro h lv S f0 f1 f2
      obtain ⟨ws, x39, x41, x42, m, m84, hw, hF, hx⟩ := S
      have hq := hw.q hq0
      have fin : ∀ y : Int32, ab_go (d + 2) ab_M_X10_layQuarrels 104 lv [.int y, .ref 82] h Q := fun y => by
        refine go_put rfl m.1 (show 41 < ws.length by rw [hw.1]; omega) lm_fit ?_
        exact j107 _ lv ⟨_, _, _, _, m.w82 _, (ab_rd_other (by decide)).trans m84, hw.st (by decide) _, hF.wr _, (List.getElem?_set_ne (by decide)).trans hx.1, (List.getElem?_set_ne (by decide)).trans hx.2.1, List.getElem?_set_self (by rw [hw.1]; omega), (List.getElem?_set_ne (by decide)).trans hx.2.2.2⟩ f0 f1 f2
      refine go_s (pc' := 89) (lv' := lv) (st' := [.ref 82]) (h' := h) rfl rfl (ig_ald f0) ?_
      refine go_s (pc' := 90) (lv' := lv) (st' := [.ref 82, .ref 82]) (h' := h) rfl rfl (ig_ald f0) ?_
      refine go_get (ci := 10) (k := 40) rfl m.1 hx.2.1 ?_
      refine go_if (c := .ne) (off := 7) (tgt := 100) rfl rfl (fun _ => ?_) (fun _ => ?_)
      · refine go_s (pc' := 101) (lv' := lv) (st' := [.ref 82, .ref 82]) (h' := h) rfl rfl (ig_ald f0) ?_
        refine go_get (ci := 10) (k := 41) rfl m.1 hx.2.2.1 ?_
        exact fin _
      · refine go_s (pc' := 97) (lv' := lv) (st' := [.int (Int32.ofNat i), .ref 82]) (h' := h) rfl rfl (po_ild (nL := 0) f1) ?_
        refine go_goto (off := 7) (tgt := 104) rfl rfl ?_
        exact fin _
    have skip : ∀ (h : ab_H) (lv : ab_L), qu_ok wi nx lvs ow EV W i j → qu_S h0 ws0 wi nx lvs ow c h → ab_lk lv 0 = some (.ref 82) → ab_lk lv 1 = some (.int (Int32.ofNat i)) → ab_lk lv 2 = some (.int (Int32.ofNat j)) → ab_go (d + 2) ab_M_X10_layQuarrels 136 lv [] h Q := by
      intro h lv hok S f0 f1 f2
      refine j136 c h lv (by omega) S (fun z s1 s2 h1 h2 h3 => ?_) f0 f1 f2
      by_cases e : s1 = i ∧ s2 = j
      · rw [e.1, e.2]; exact hok
      · exact hI z s1 s2 h1 h2 (by omega)
    have j69 : ∀ (h : ab_H) (lv : ab_L), qu_S h0 ws0 wi nx lvs ow c h → ab_lk lv 0 = some (.ref 82) → ab_lk lv 1 = some (.int (Int32.ofNat i)) → ab_lk lv 2 = some (.int (Int32.ofNat j)) → ab_go (d + 2) ab_M_X10_layQuarrels 69 lv [] h Q := by
      intro h lv S f0 f1 f2
      have S0 := S
      obtain ⟨ws, x39, x41, x42, m, m84, hw, hF, hx⟩ := S
      have hq := hw.q hq0
      refine go_s (pc' := 70) (lv' := lv) (st' := [.ref 82]) (h' := h) rfl rfl (ig_ald f0) ?_
      refine go_s (pc' := 71) (lv' := lv) (st' := [.int (Int32.ofNat i), .ref 82]) (h' := h) rfl rfl (po_ild (nL := 0) f1) ?_
      refine go_c rfl rfl (am_cal_am (rest := []) (show 0 ≤ 8 by decide) m.1) rfl (am_run m hq hE (show i < 200 by omega) d) (fun r h' hr => ?_)
      obtain ⟨rfl, rfl⟩ := hr
      show ab_go (d + 2) ab_M_X10_layQuarrels 74 _ [.int (am_v wi nx lvs EV i)] _ _
      refine go_s (pc' := 75) (lv' := lv) (st' := [.ref 82, .int (am_v wi nx lvs EV i)]) (h' := h') rfl rfl (ig_ald f0) ?_
      refine go_s (pc' := 76) (lv' := lv) (st' := [.int (Int32.ofNat j), .ref 82, .int (am_v wi nx lvs EV i)]) (h' := h') rfl rfl (po_ild (nL := 0) f2) ?_
      refine go_c rfl rfl (am_cal_am (rest := [.int (am_v wi nx lvs EV i)]) (show 1 + 0 ≤ 8 by decide) m.1) rfl (am_run m hq hE (show j < 200 by omega) d) (fun r h2 hr => ?_)
      obtain ⟨rfl, rfl⟩ := hr
      show ab_go (d + 2) ab_M_X10_layQuarrels 79 _ [.int (am_v wi nx lvs EV j), .int (am_v wi nx lvs EV i)] _ _
      refine go_s (pc' := 80) (lv' := lv) (st' := [.int ((am_v wi nx lvs EV i) ^^^ (am_v wi nx lvs EV j))]) (h' := h2) rfl rfl rfl ?_
      refine go_s (pc' := 81) (lv' := lv) (st' := [.ref 82, .int ((am_v wi nx lvs EV i) ^^^ (am_v wi nx lvs EV j))]) (h' := h2) rfl rfl (ig_ald f0) ?_
      refine go_c rfl rfl (qu_cal_ow (rest := [.int (am_v wi nx lvs EV i ^^^ am_v wi nx lvs EV j)]) (show 1 + 0 ≤ 8 by decide) m.1) rfl (ow_run ⟨m.1, m84⟩ ((hw.2 0 (by decide)).trans hW0) ((hw.2 2 (by decide)).trans hW2) hW (d + 1)) (fun r h3 hr => ?_)
      obtain ⟨rfl, rfl⟩ := hr
      show ab_go (d + 2) ab_M_X10_layQuarrels 84 _ [.int (ow_v ow W), .int (am_v wi nx lvs EV i ^^^ am_v wi nx lvs EV j)] _ _
      refine go_s (pc' := 85) (lv' := lv) (st' := [.int ((am_v wi nx lvs EV i ^^^ am_v wi nx lvs EV j) &&& (ow_v ow W))]) (h' := h3) rfl rfl rfl ?_
      exact go_if (c := .eq) (off := 51) (tgt := 136) rfl rfl (fun q => skip _ lv (fun _ => Int32.toInt_inj.mp q) S0 f0 f1 f2) (fun _ => j88 _ lv S0 f0 f1 f2)
    have S0 := S
    obtain ⟨ws, x39, x41, x42, m, m84, hw, hF, hx⟩ := S
    have hq := hw.q hq0
    refine go_s (pc' := 37) (lv' := lv) (st' := [.int (Int32.ofNat j)]) (h' := h) rfl rfl (po_ild (nL := 0) f2) ?_
    refine go_s (pc' := 38) (lv' := lv) (st' := [.ref 82, .int (Int32.ofNat j)]) (h' := h) rfl rfl (ig_ald f0) ?_
    refine go_get (ci := 10) (k := 32) rfl m.1 hq.2.2.2.2 ?_
    refine go_ic (c := .ge) (off := 101) (tgt := 142) rfl rfl (fun q => absurd (show (Int32.ofNat ST).toInt ≤ (Int32.ofNat j).toInt from q) (by rw [mk_i (by omega), mk_i (by omega)]; omega)) (fun _ => ?_)
    refine go_s (pc' := 45) (lv' := lv) (st' := [.ref 82]) (h' := h) rfl rfl (ig_ald f0) ?_
    refine go_get (ci := 10) (k := 36) rfl m.1 hq.2.2.2.1 ?_
    refine go_s (pc' := 49) (lv' := lv) (st' := [.int (Int32.ofNat i), .ref 101]) (h' := h) rfl rfl (po_ild (nL := 0) f1) ?_
    refine go_ial (v := lvs i) rfl m.2.2.2 (mk_ix (by omega) (by omega)) (by rw [mk_cl (by omega)]) ?_
    refine go_s (pc' := 51) (lv' := lv) (st' := [.ref 82, .int (lvs i)]) (h' := h) rfl rfl (ig_ald f0) ?_
    refine go_get (ci := 10) (k := 36) rfl m.1 hq.2.2.2.1 ?_
    refine go_s (pc' := 55) (lv' := lv) (st' := [.int (Int32.ofNat j), .ref 101, .int (lvs i)]) (h' := h) rfl rfl (po_ild (nL := 0) f2) ?_
    refine go_ial (v := lvs j) rfl m.2.2.2 (mk_ix (by omega) (by omega)) (by rw [mk_cl (by omega)]) ?_
    refine go_ic (c := .ne) (off := 80) (tgt := 136) rfl rfl (fun q => skip h lv (fun z => absurd (congrArg Int32.toInt z) q) S0 f0 f1 f2) (fun _ => ?_)
    refine go_s (pc' := 60) (lv' := lv) (st' := [.ref 82]) (h' := h) rfl rfl (ig_ald f0) ?_
    refine go_s (pc' := 61) (lv' := lv) (st' := [.ref 82, .ref 82]) (h' := h) rfl rfl rfl ?_
    refine go_get (ci := 10) (k := 39) rfl m.1 hx.1 ?_
    refine go_s (pc' := 65) (lv' := lv) (st' := [.int 1, .int x39, .ref 82]) (h' := h) rfl rfl rfl ?_
    refine go_s (pc' := 66) (lv' := lv) (st' := [.int (x39 + 1), .ref 82]) (h' := h) rfl rfl rfl ?_
    refine go_put rfl m.1 (show 39 < ws.length by rw [hw.1]; omega) lm_fit ?_
    exact j69 _ lv ⟨_, _, _, _, m.w82 _, (ab_rd_other (by decide)).trans m84, hw.st (by decide) _, hF.wr _, List.getElem?_set_self (by rw [hw.1]; omega), (List.getElem?_set_ne (by decide)).trans hx.2.1, (List.getElem?_set_ne (by decide)).trans hx.2.2.1, (List.getElem?_set_ne (by decide)).trans hx.2.2.2⟩ f0 f1 f2
end QU
