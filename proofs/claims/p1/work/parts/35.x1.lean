set_option maxHeartbeats 16000000 in
set_option maxRecDepth 20000 in
theorem x_come {g : ab_H} (q : ab_sim p1_Sx p1_Hx g) (e : Int32) : ab_go 999 ab_M_X9_come 0 [(0, .ref 1), (1, .int e)] [] g (fun r g' => r = some (.int (-1)) ∧ p1_X g g') := by
  have hz : g.1 = 120 := q.1.symm
  have x0 : p1_X g g := ⟨q.1.symm, q.2.1.symm, fun _ _ => rfl⟩
  refine go_s (pc' := 1) (lv' := [(0, .ref 1), (1, .int e)]) (st' := [.ref 1]) rfl rfl rfl ?_
  refine go_get (v := .ref 41) rfl (ab_fo q p1_o_p1_Hx_1 (by decide)) rfl ?_
  refine go_s (pc' := 5) (lv' := [(0, .ref 1), (1, .int e)]) (st' := [.int e, .ref 41]) rfl rfl rfl ?_
  refine go_cc rfl rfl (ab_cal_v (As := [.int e]) (rest := []) rfl rfl rfl (ab_fo q p1_o_p1_Hx_41 (by decide)) rfl rfl rfl rfl) (lv0 := [(0, .ref 41), (1, .int e)]) rfl ?_
  refine go_s (pc' := 1) (lv' := [(0, .ref 41), (1, .int e)]) (st' := [.int e]) rfl rfl rfl ?_
  refine go_if (tgt := 16) rfl (by decide) (fun c => ?_) (fun c => ?_)
  ·
    have c1 : e.toInt < 0 := c
    refine go_iconst (v := 0) rfl (by decide) ?_
    refine go_rz rfl rfl (by decide) ?_
    show ab_go 999 ab_M_X9_come 8 [(0, .ref 1), (1, .int e)] [.int 0] g _
    refine go_iff rfl (by decide) ?_
    refine go_iconst (v := (-1)) rfl (by decide) ?_
    refine go_ri rfl rfl ?_
    exact ⟨rfl, x0⟩
  ·
    have c2 : ¬ e.toInt < 0 := c
    refine go_s (pc' := 5) (lv' := [(0, .ref 41), (1, .int e)]) (st' := [.int e]) rfl rfl rfl ?_
    refine go_s (pc' := 6) (lv' := [(0, .ref 41), (1, .int e)]) (st' := [.ref 41, .int e]) rfl rfl rfl ?_
    refine go_get (v := .int 0) rfl (ab_fo q p1_o_p1_Hx_41 (by decide)) rfl ?_
    refine go_ic (tgt := 16) rfl (by decide) (fun c => ?_) (fun c => ?_)
    ·
      have c3 : 0 ≤ e.toInt := c
      refine go_iconst (v := 0) rfl (by decide) ?_
      refine go_rz rfl rfl (by decide) ?_
      show ab_go 999 ab_M_X9_come 8 [(0, .ref 1), (1, .int e)] [.int 0] g _
      refine go_iff rfl (by decide) ?_
      refine go_iconst (v := (-1)) rfl (by decide) ?_
      refine go_ri rfl rfl ?_
      exact ⟨rfl, x0⟩
    ·
      have c4 : ¬ 0 ≤ e.toInt := c
      exfalso; omega
set_option maxHeartbeats 16000000 in
set_option maxRecDepth 20000 in
theorem x_undo {g : ab_H} (q : ab_sim p1_Sx p1_Hx g) : ab_go 999 ab_M_X9_undo 0 [(0, .ref 1)] [] g (fun r g' => r = some (.int (-4)) ∧ p1_X g g') := by
  have x0 : p1_X g g := ⟨q.1.symm, q.2.1.symm, fun _ _ => rfl⟩
  obtain ⟨n, r, hF, hx, hr, z, w0, q1, f0⟩ := go_sim p1_R15 q
  exact ⟨n, r, hF, hx, hr, x0.next f0 z w0⟩
set_option maxHeartbeats 16000000 in
set_option maxRecDepth 20000 in
theorem x_run {g : ab_H} (q : ab_sim p1_Sx p1_Hx g) (w : Int32) : ab_go 999 ab_M_X9_run 0 [(0, .ref 1), (1, .int w)] [] g (fun r g' => r = some (.int (an_run w)) ∧ p1_X g g') := by
  have hz : g.1 = 120 := q.1.symm
  have x0 : p1_X g g := ⟨q.1.symm, q.2.1.symm, fun _ _ => rfl⟩
  refine go_s (pc' := 1) (lv' := [(0, .ref 1), (1, .int w)]) (st' := [.int w]) rfl rfl rfl ?_
  by_cases c1 : w.toInt = 0
  ·
    refine go_tin (tgt := 32) 0 rfl c1 (by decide) rfl (by decide) ?_
    refine go_s (pc' := 33) (lv' := [(0, .ref 1), (1, .int w)]) (st' := [.ref 1]) rfl rfl rfl ?_
    refine go_get (v := .ref 37) rfl (ab_fo q p1_o_p1_Hx_1 (by decide)) rfl ?_
    refine go_s (pc' := 37) (lv' := [(0, .ref 1), (1, .int w)]) (st' := [.ref 1, .ref 37]) rfl rfl rfl ?_
    refine go_get (v := .ref 41) rfl (ab_fo q p1_o_p1_Hx_1 (by decide)) rfl ?_
    refine go_cc rfl rfl (ab_cal_v (As := [.ref 41]) (rest := []) rfl rfl rfl (ab_fo q p1_o_p1_Hx_37 (by decide)) rfl rfl rfl rfl) (lv0 := [(0, .ref 37), (1, .ref 41)]) rfl ?_
    refine go_s (pc' := 1) (lv' := [(0, .ref 37), (1, .ref 41)]) (st' := [.ref 37]) rfl rfl rfl ?_
    refine go_get (v := .int 0) rfl (ab_fo q p1_o_p1_Hx_37 (by decide)) rfl ?_
    refine go_ift (tgt := 30) rfl (by decide) (by decide) ?_
    refine go_s (pc' := 31) (lv' := [(0, .ref 37), (1, .ref 41)]) (st' := [.ref 41]) rfl rfl rfl ?_
    refine go_get (v := .int 0) rfl (ab_fo q p1_o_p1_Hx_41 (by decide)) rfl ?_
    refine go_ri rfl rfl ?_
    show ab_go 999 ab_M_X9_run 43 [(0, .ref 1), (1, .int w)] [.int 0] g _
    refine go_ri rfl rfl ?_
    exact ⟨(by unfold an_run; first | (rw [if_pos (by omega)]; done) | (rw [if_neg (by omega)]; done) | (rw [if_neg (by omega), if_pos (by omega)]; done) | (rw [if_neg (by omega), if_neg (by omega)]; done) | (rw [if_pos (by omega), if_pos (by omega)]; done) | (rw [if_pos (by omega), if_neg (by omega)]; done) | decide | (simp; omega)), x0⟩
  ·
    by_cases c2 : w.toInt = 1
    ·
      refine go_tin (tgt := 44) 1 rfl c2 (by decide) rfl (by decide) ?_
      refine go_s (pc' := 45) (lv' := [(0, .ref 1), (1, .int w)]) (st' := [.ref 1]) rfl rfl rfl ?_
      refine go_get (v := .ref 41) rfl (ab_fo q p1_o_p1_Hx_1 (by decide)) rfl ?_
      refine go_s (pc' := 49) (lv' := [(0, .ref 1), (1, .int w)]) (st' := [.ref 1, .ref 41]) rfl rfl rfl ?_
      refine go_get (v := .ref 37) rfl (ab_fo q p1_o_p1_Hx_1 (by decide)) rfl ?_
      refine go_s (pc' := 53) (lv' := [(0, .ref 1), (1, .int w)]) (st' := [.ref 1, .ref 37, .ref 41]) rfl rfl rfl ?_
      refine go_get (v := .ref 41) rfl (ab_fo q p1_o_p1_Hx_1 (by decide)) rfl ?_
      refine go_cc rfl rfl (ab_cal_v (As := [.ref 41]) (rest := [.ref 41]) rfl rfl rfl (ab_fo q p1_o_p1_Hx_37 (by decide)) rfl rfl rfl rfl) (lv0 := [(0, .ref 37), (1, .ref 41)]) rfl ?_
      refine go_s (pc' := 1) (lv' := [(0, .ref 37), (1, .ref 41)]) (st' := [.ref 37]) rfl rfl rfl ?_
      refine go_get (v := .int 0) rfl (ab_fo q p1_o_p1_Hx_37 (by decide)) rfl ?_
      refine go_ift (tgt := 30) rfl (by decide) (by decide) ?_
      refine go_s (pc' := 31) (lv' := [(0, .ref 37), (1, .ref 41)]) (st' := [.ref 41]) rfl rfl rfl ?_
      refine go_get (v := .int 0) rfl (ab_fo q p1_o_p1_Hx_41 (by decide)) rfl ?_
      refine go_ri rfl rfl ?_
      show ab_go 999 ab_M_X9_run 59 [(0, .ref 1), (1, .int w)] [.int 0, .ref 41] g _
      refine go_c rfl rfl (ab_cal_v (As := [.int 0]) (rest := []) rfl rfl rfl (ab_fo q p1_o_p1_Hx_41 (by decide)) rfl rfl rfl rfl) (lv0 := [(0, .ref 41), (1, .int 0)]) rfl (go_sim p1_R16 q) (fun r0 g3 hr => ?_)
      obtain ⟨rfl, z6, w0, q4, f0⟩ := hr
      have x5 := x0.next f0 z6 w0
      show ab_go 999 ab_M_X9_run 62 [(0, .ref 1), (1, .int w)] [.int 0] g3 _
      refine go_ri rfl rfl ?_
      exact ⟨(by unfold an_run; first | (rw [if_pos (by omega)]; done) | (rw [if_neg (by omega)]; done) | (rw [if_neg (by omega), if_pos (by omega)]; done) | (rw [if_neg (by omega), if_neg (by omega)]; done) | (rw [if_pos (by omega), if_pos (by omega)]; done) | (rw [if_pos (by omega), if_neg (by omega)]; done) | decide | (simp; omega)), x5⟩
    ·
      by_cases c7 : w.toInt = 2
      ·
        refine go_tin (tgt := 63) 2 rfl c7 (by decide) rfl (by decide) ?_
        refine go_s (pc' := 64) (lv' := [(0, .ref 1), (1, .int w)]) (st' := [.ref 1]) rfl rfl rfl ?_
        refine go_get (v := .ref 37) rfl (ab_fo q p1_o_p1_Hx_1 (by decide)) rfl ?_
        refine go_get (v := .int 0) rfl (ab_fo q p1_o_p1_Hx_37 (by decide)) rfl ?_
        refine go_ri rfl rfl ?_
        exact ⟨(by unfold an_run; first | (rw [if_pos (by omega)]; done) | (rw [if_neg (by omega)]; done) | (rw [if_neg (by omega), if_pos (by omega)]; done) | (rw [if_neg (by omega), if_neg (by omega)]; done) | (rw [if_pos (by omega), if_pos (by omega)]; done) | (rw [if_pos (by omega), if_neg (by omega)]; done) | decide | (simp; omega)), x0⟩
      ·
        by_cases c8 : w.toInt = 3
        ·
          refine go_tin (tgt := 71) 3 rfl c8 (by decide) rfl (by decide) ?_
          refine go_s (pc' := 72) (lv' := [(0, .ref 1), (1, .int w)]) (st' := [.ref 1]) rfl rfl rfl ?_
          refine go_get (v := .ref 37) rfl (ab_fo q p1_o_p1_Hx_1 (by decide)) rfl ?_
          refine go_cc rfl rfl (ab_cal_v (As := []) (rest := []) rfl rfl rfl (ab_fo q p1_o_p1_Hx_37 (by decide)) rfl rfl rfl rfl) (lv0 := [(0, .ref 37)]) rfl ?_
          refine go_s (pc' := 1) (lv' := [(0, .ref 37)]) (st' := [.ref 37]) rfl rfl rfl ?_
          refine go_get (v := .int 0) rfl (ab_fo q p1_o_p1_Hx_37 (by decide)) rfl ?_
          refine go_ift (tgt := 30) rfl (by decide) (by decide) ?_
          refine go_bipush (v := (-4)) rfl (by decide) ?_
          refine go_ri rfl rfl ?_
          show ab_go 999 ab_M_X9_run 78 [(0, .ref 1), (1, .int w)] [.int (-4)] g _
          refine go_ri rfl rfl ?_
          exact ⟨(by unfold an_run; first | (rw [if_pos (by omega)]; done) | (rw [if_neg (by omega)]; done) | (rw [if_neg (by omega), if_pos (by omega)]; done) | (rw [if_neg (by omega), if_neg (by omega)]; done) | (rw [if_pos (by omega), if_pos (by omega)]; done) | (rw [if_pos (by omega), if_neg (by omega)]; done) | decide | (simp; omega)), x0⟩
        ·
          refine go_tout (tgt := 79) rfl (by omega) (by decide) ?_
          refine go_iconst (v := (-1)) rfl (by decide) ?_
          refine go_ri rfl rfl ?_
          exact ⟨(by unfold an_run; first | (rw [if_pos (by omega)]; done) | (rw [if_neg (by omega)]; done) | (rw [if_neg (by omega), if_pos (by omega)]; done) | (rw [if_neg (by omega), if_neg (by omega)]; done) | (rw [if_pos (by omega), if_pos (by omega)]; done) | (rw [if_pos (by omega), if_neg (by omega)]; done) | decide | (simp; omega)), x0⟩
set_option maxHeartbeats 16000000 in
set_option maxRecDepth 20000 in
theorem x_sheet {g : ab_H} (q : ab_sim p1_Sx p1_Hx g) (k : Int32) (t : Int32) (n : Int32) : ab_go 999 ab_M_X9_sheet 0 [(0, .ref 1), (1, .int k), (2, .int t), (3, .int n)] [] g (fun r g' => r = some (.int (an_sheet k t n)) ∧ p1_X g g') := by
  have hz : g.1 = 120 := q.1.symm
  have x0 : p1_X g g := ⟨q.1.symm, q.2.1.symm, fun _ _ => rfl⟩
  refine go_s (pc' := 1) (lv' := [(0, .ref 1), (1, .int k), (2, .int t), (3, .int n)]) (st' := [.int k]) rfl rfl rfl ?_
  refine go_cc rfl rfl rfl (lv0 := [(0, .int k)]) rfl ?_
  refine go_s (pc' := 1) (lv' := [(0, .int k)]) (st' := [.int k]) rfl rfl rfl ?_
  refine go_if (tgt := 13) rfl (by decide) (fun c => ?_) (fun c => ?_)
  ·
    have c1 : k.toInt < 0 := c
    refine go_iconst (v := 0) rfl (by decide) ?_
    refine go_rz rfl rfl (by decide) ?_
    show ab_go 999 ab_M_X9_sheet 4 [(0, .ref 1), (1, .int k), (2, .int t), (3, .int n)] [.int 0] g _
    refine go_ift (tgt := 20) rfl (by decide) (by decide) ?_
    refine go_iconst (v := (-1)) rfl (by decide) ?_
    refine go_ri rfl rfl ?_
    exact ⟨(by unfold an_sheet; first | (rw [if_pos (by omega)]; done) | (rw [if_neg (by omega)]; done) | (rw [if_neg (by omega), if_pos (by omega)]; done) | (rw [if_neg (by omega), if_neg (by omega)]; done) | (rw [if_pos (by omega), if_pos (by omega)]; done) | (rw [if_pos (by omega), if_neg (by omega)]; done) | decide | (simp; omega)), x0⟩
  ·
    have c2 : ¬ k.toInt < 0 := c
    refine go_s (pc' := 5) (lv' := [(0, .int k)]) (st' := [.int k]) rfl rfl rfl ?_
    refine go_iconst (v := 4) rfl (by decide) ?_
    refine go_ic (tgt := 13) rfl (by decide) (fun c => ?_) (fun c => ?_)
    ·
      have c3 : 4 ≤ k.toInt := c
      refine go_iconst (v := 0) rfl (by decide) ?_
      refine go_rz rfl rfl (by decide) ?_
      show ab_go 999 ab_M_X9_sheet 4 [(0, .ref 1), (1, .int k), (2, .int t), (3, .int n)] [.int 0] g _
      refine go_ift (tgt := 20) rfl (by decide) (by decide) ?_
      refine go_iconst (v := (-1)) rfl (by decide) ?_
      refine go_ri rfl rfl ?_
      exact ⟨(by unfold an_sheet; first | (rw [if_pos (by omega)]; done) | (rw [if_neg (by omega)]; done) | (rw [if_neg (by omega), if_pos (by omega)]; done) | (rw [if_neg (by omega), if_neg (by omega)]; done) | (rw [if_pos (by omega), if_pos (by omega)]; done) | (rw [if_pos (by omega), if_neg (by omega)]; done) | decide | (simp; omega)), x0⟩
    ·
      have c4 : ¬ 4 ≤ k.toInt := c
      refine go_iconst (v := 1) rfl (by decide) ?_
      refine go_goto (tgt := 14) rfl (by decide) ?_
      refine go_rz rfl rfl (by decide) ?_
      show ab_go 999 ab_M_X9_sheet 4 [(0, .ref 1), (1, .int k), (2, .int t), (3, .int n)] [.int 1] g _
      refine go_iff rfl (by decide) ?_
      refine go_s (pc' := 8) (lv' := [(0, .ref 1), (1, .int k), (2, .int t), (3, .int n)]) (st' := [.int t]) rfl rfl rfl ?_
      refine go_cc rfl rfl rfl (lv0 := [(0, .int t)]) rfl ?_
      refine go_s (pc' := 1) (lv' := [(0, .int t)]) (st' := [.int t]) rfl rfl rfl ?_
      refine go_if (tgt := 13) rfl (by decide) (fun c => ?_) (fun c => ?_)
      ·
        have c5 : t.toInt < 0 := c
        refine go_iconst (v := 0) rfl (by decide) ?_
        refine go_rz rfl rfl (by decide) ?_
        show ab_go 999 ab_M_X9_sheet 11 [(0, .ref 1), (1, .int k), (2, .int t), (3, .int n)] [.int 0] g _
        refine go_ift (tgt := 20) rfl (by decide) (by decide) ?_
        refine go_iconst (v := (-1)) rfl (by decide) ?_
        refine go_ri rfl rfl ?_
        exact ⟨(by unfold an_sheet; first | (rw [if_pos (by omega)]; done) | (rw [if_neg (by omega)]; done) | (rw [if_neg (by omega), if_pos (by omega)]; done) | (rw [if_neg (by omega), if_neg (by omega)]; done) | (rw [if_pos (by omega), if_pos (by omega)]; done) | (rw [if_pos (by omega), if_neg (by omega)]; done) | decide | (simp; omega)), x0⟩
      ·
        have c6 : ¬ t.toInt < 0 := c
        refine go_s (pc' := 5) (lv' := [(0, .int t)]) (st' := [.int t]) rfl rfl rfl ?_
        refine go_iconst (v := 3) rfl (by decide) ?_
        refine go_ic (tgt := 13) rfl (by decide) (fun c => ?_) (fun c => ?_)
        ·
          have c7 : 3 ≤ t.toInt := c
          refine go_iconst (v := 0) rfl (by decide) ?_
          refine go_rz rfl rfl (by decide) ?_
          show ab_go 999 ab_M_X9_sheet 11 [(0, .ref 1), (1, .int k), (2, .int t), (3, .int n)] [.int 0] g _
          refine go_ift (tgt := 20) rfl (by decide) (by decide) ?_
          refine go_iconst (v := (-1)) rfl (by decide) ?_
          refine go_ri rfl rfl ?_
          exact ⟨(by unfold an_sheet; first | (rw [if_pos (by omega)]; done) | (rw [if_neg (by omega)]; done) | (rw [if_neg (by omega), if_pos (by omega)]; done) | (rw [if_neg (by omega), if_neg (by omega)]; done) | (rw [if_pos (by omega), if_pos (by omega)]; done) | (rw [if_pos (by omega), if_neg (by omega)]; done) | decide | (simp; omega)), x0⟩
        ·
          have c8 : ¬ 3 ≤ t.toInt := c
          refine go_iconst (v := 1) rfl (by decide) ?_
          refine go_goto (tgt := 14) rfl (by decide) ?_
          refine go_rz rfl rfl (by decide) ?_
          show ab_go 999 ab_M_X9_sheet 11 [(0, .ref 1), (1, .int k), (2, .int t), (3, .int n)] [.int 1] g _
          refine go_iff rfl (by decide) ?_
          refine go_s (pc' := 15) (lv' := [(0, .ref 1), (1, .int k), (2, .int t), (3, .int n)]) (st' := [.int n]) rfl rfl rfl ?_
          refine go_bipush (v := 64) rfl (by decide) ?_
          refine go_ic (tgt := 22) rfl (by decide) (fun c => ?_) (fun c => ?_)
          ·
            have c9 : n.toInt ≤ 64 := c
            refine go_s (pc' := 23) (lv' := [(0, .ref 1), (1, .int k), (2, .int t), (3, .int n)]) (st' := [.int n]) rfl rfl rfl ?_
            refine go_if (tgt := 29) rfl (by decide) (fun c => ?_) (fun c => ?_)
            ·
              have c10 : 0 ≤ n.toInt := c
              refine go_s (pc' := 30) (lv' := [(0, .ref 1), (1, .int k), (2, .int t), (3, .int n)]) (st' := [.ref 1]) rfl rfl rfl ?_
              refine go_get (v := .ref 40) rfl (ab_fo q p1_o_p1_Hx_1 (by decide)) rfl ?_
              refine go_s (pc' := 34) (lv' := [(0, .ref 1), (1, .int k), (2, .int t), (3, .int n)]) (st' := [.int k, .ref 40]) rfl rfl rfl ?_
              by_cases c11 : k.toInt = 0
              ·
                obtain rfl : k = 0 := ab_i0 0 (by have e : (0 : Int32).toInt = 0 := rfl; omega)
                obtain ⟨f12, h13, vh13⟩ := ab_fqa q p1_a_p1_Hx_40_0
                refine go_aal (v := .ref 74) rfl h13 (by decide) (by show va_rf (f12 0) = _; rw [vh13]; rfl) ?_
                refine go_s (pc' := 36) (lv' := [(0, .ref 1), (1, .int 0), (2, .int t), (3, .int n)]) (st' := [.int t, .ref 74]) rfl rfl rfl ?_
                refine go_s (pc' := 37) (lv' := [(0, .ref 1), (1, .int 0), (2, .int t), (3, .int n)]) (st' := [.int n, .int t, .ref 74]) rfl rfl rfl ?_
                refine go_cc rfl rfl (ab_cal_v (As := [.int t, .int n]) (rest := []) rfl rfl rfl (ab_fo q p1_o_p1_Hx_74 (by decide)) rfl rfl rfl rfl) (lv0 := [(0, .ref 74), (1, .int t), (2, .int n)]) rfl ?_
                refine go_s (pc' := 1) (lv' := [(0, .ref 74), (1, .int t), (2, .int n)]) (st' := [.ref 74]) rfl rfl rfl ?_
                refine go_s (pc' := 2) (lv' := [(0, .ref 74), (1, .int t), (2, .int n)]) (st' := [.int t, .ref 74]) rfl rfl rfl ?_
                refine go_put (v := .int t) rfl (ab_fo q p1_o_p1_Hx_74 (by decide)) (Nat.le_of_ble_eq_true rfl) (ab_fit_i _) ?_
                show ab_go 998 ab_M_X6_renew 5 [(0, .ref 74), (1, .int t), (2, .int n)] [] (ab_wr g 74 (.inr (6, [.int (-1), .ref 75, .int t]))) _
                refine go_s (pc' := 6) (lv' := [(0, .ref 74), (1, .int t), (2, .int n)]) (st' := [.ref 74]) rfl rfl rfl ?_
                refine go_s (pc' := 7) (lv' := [(0, .ref 74), (1, .int t), (2, .int n)]) (st' := [.int n, .ref 74]) rfl rfl rfl ?_
                refine go_put (v := .int n) rfl (ab_rd_self (by show 74 < g.1; rw [hz]; decide)) (Nat.le_of_ble_eq_true rfl) (ab_fit_i _) ?_
                show ab_go 998 ab_M_X6_renew 10 [(0, .ref 74), (1, .int t), (2, .int n)] [] (ab_wr (ab_wr g 74 (.inr (6, [.int (-1), .ref 75, .int t]))) 74 (.inr (6, [.int n, .ref 75, .int t]))) _
                refine go_s (pc' := 11) (lv' := [(0, .ref 74), (1, .int t), (2, .int n)]) (st' := [.ref 74]) rfl rfl rfl ?_
                refine go_get (v := .ref 75) rfl (ab_rd_self (by show 74 < g.1; rw [hz]; decide)) rfl ?_
                refine go_iconst (v := 0) rfl (by decide) ?_
                have hcx15 : ((ab_wr (ab_wr g 74 (.inr (6, [.int (-1), .ref 75, .int t]))) 74 (.inr (6, [.int n, .ref 75, .int t])))).2.2 75 = p1_H.2.2 75 := (by rw [ab_wr_at (by decide), ab_wr_at (by decide)]; exact p1_cell q (by decide))
                refine go_c rfl rfl rfl (lv0 := [(0, .ref 75), (1, .int 0)]) rfl (go_sim p1_R17 (p1_fsim (a := 75) (h := (ab_wr (ab_wr g 74 (.inr (6, [.int (-1), .ref 75, .int t]))) 74 (.inr (6, [.int n, .ref 75, .int t])))) hz x0.2.1 hcx15)) (fun r0 g14 hr => ?_)
                obtain ⟨rfl, z0, w0, q0, f0⟩ := hr
                have x15 := p1_X.nxt2 (a := 75) ((x0.wr (by decide) _).wr (by decide) _) f0 (by decide) z0 w0
                show ab_go 998 ab_M_X6_renew 18 [(0, .ref 74), (1, .int t), (2, .int n)] [] g14 _
                refine go_rv rfl rfl ?_
                show ab_go 999 ab_M_X9_sheet 40 [(0, .ref 1), (1, .int 0), (2, .int t), (3, .int n)] [] g14 _
                refine go_iconst (v := 1) rfl (by decide) ?_
                refine go_ri rfl rfl ?_
                exact ⟨(by unfold an_sheet; first | (rw [if_pos (by omega)]; done) | (rw [if_neg (by omega)]; done) | (rw [if_neg (by omega), if_pos (by omega)]; done) | (rw [if_neg (by omega), if_neg (by omega)]; done) | (rw [if_pos (by omega), if_pos (by omega)]; done) | (rw [if_pos (by omega), if_neg (by omega)]; done) | decide | (simp; omega)), x15⟩
              ·
                by_cases c16 : k.toInt = 1
                ·
                  obtain rfl : k = 1 := ab_i0 1 (by have e : (1 : Int32).toInt = 1 := rfl; omega)
                  obtain ⟨f17, h18, vh18⟩ := ab_fqa q p1_a_p1_Hx_40_1
                  refine go_aal (v := .ref 76) rfl h18 (by decide) (by show va_rf (f17 1) = _; rw [vh18]; rfl) ?_
                  refine go_s (pc' := 36) (lv' := [(0, .ref 1), (1, .int 1), (2, .int t), (3, .int n)]) (st' := [.int t, .ref 76]) rfl rfl rfl ?_
                  refine go_s (pc' := 37) (lv' := [(0, .ref 1), (1, .int 1), (2, .int t), (3, .int n)]) (st' := [.int n, .int t, .ref 76]) rfl rfl rfl ?_
                  refine go_cc rfl rfl (ab_cal_v (As := [.int t, .int n]) (rest := []) rfl rfl rfl (ab_fo q p1_o_p1_Hx_76 (by decide)) rfl rfl rfl rfl) (lv0 := [(0, .ref 76), (1, .int t), (2, .int n)]) rfl ?_
                  refine go_s (pc' := 1) (lv' := [(0, .ref 76), (1, .int t), (2, .int n)]) (st' := [.ref 76]) rfl rfl rfl ?_
                  refine go_s (pc' := 2) (lv' := [(0, .ref 76), (1, .int t), (2, .int n)]) (st' := [.int t, .ref 76]) rfl rfl rfl ?_
                  refine go_put (v := .int t) rfl (ab_fo q p1_o_p1_Hx_76 (by decide)) (Nat.le_of_ble_eq_true rfl) (ab_fit_i _) ?_
                  show ab_go 998 ab_M_X6_renew 5 [(0, .ref 76), (1, .int t), (2, .int n)] [] (ab_wr g 76 (.inr (6, [.int (-1), .ref 77, .int t]))) _
                  refine go_s (pc' := 6) (lv' := [(0, .ref 76), (1, .int t), (2, .int n)]) (st' := [.ref 76]) rfl rfl rfl ?_
                  refine go_s (pc' := 7) (lv' := [(0, .ref 76), (1, .int t), (2, .int n)]) (st' := [.int n, .ref 76]) rfl rfl rfl ?_
                  refine go_put (v := .int n) rfl (ab_rd_self (by show 76 < g.1; rw [hz]; decide)) (Nat.le_of_ble_eq_true rfl) (ab_fit_i _) ?_
                  show ab_go 998 ab_M_X6_renew 10 [(0, .ref 76), (1, .int t), (2, .int n)] [] (ab_wr (ab_wr g 76 (.inr (6, [.int (-1), .ref 77, .int t]))) 76 (.inr (6, [.int n, .ref 77, .int t]))) _
                  refine go_s (pc' := 11) (lv' := [(0, .ref 76), (1, .int t), (2, .int n)]) (st' := [.ref 76]) rfl rfl rfl ?_
                  refine go_get (v := .ref 77) rfl (ab_rd_self (by show 76 < g.1; rw [hz]; decide)) rfl ?_
                  refine go_iconst (v := 0) rfl (by decide) ?_
                  have hcx20 : ((ab_wr (ab_wr g 76 (.inr (6, [.int (-1), .ref 77, .int t]))) 76 (.inr (6, [.int n, .ref 77, .int t])))).2.2 77 = p1_H.2.2 77 := (by rw [ab_wr_at (by decide), ab_wr_at (by decide)]; exact p1_cell q (by decide))
                  refine go_c rfl rfl rfl (lv0 := [(0, .ref 77), (1, .int 0)]) rfl (go_sim p1_R18 (p1_fsim (a := 77) (h := (ab_wr (ab_wr g 76 (.inr (6, [.int (-1), .ref 77, .int t]))) 76 (.inr (6, [.int n, .ref 77, .int t])))) hz x0.2.1 hcx20)) (fun r0 g19 hr => ?_)
                  obtain ⟨rfl, z0, w0, q0, f0⟩ := hr
                  have x20 := p1_X.nxt2 (a := 77) ((x0.wr (by decide) _).wr (by decide) _) f0 (by decide) z0 w0
                  show ab_go 998 ab_M_X6_renew 18 [(0, .ref 76), (1, .int t), (2, .int n)] [] g19 _
                  refine go_rv rfl rfl ?_
                  show ab_go 999 ab_M_X9_sheet 40 [(0, .ref 1), (1, .int 1), (2, .int t), (3, .int n)] [] g19 _
                  refine go_iconst (v := 1) rfl (by decide) ?_
                  refine go_ri rfl rfl ?_
                  exact ⟨(by unfold an_sheet; first | (rw [if_pos (by omega)]; done) | (rw [if_neg (by omega)]; done) | (rw [if_neg (by omega), if_pos (by omega)]; done) | (rw [if_neg (by omega), if_neg (by omega)]; done) | (rw [if_pos (by omega), if_pos (by omega)]; done) | (rw [if_pos (by omega), if_neg (by omega)]; done) | decide | (simp; omega)), x20⟩
                ·
                  by_cases c21 : k.toInt = 2
                  ·
                    obtain rfl : k = 2 := ab_i0 2 (by have e : (2 : Int32).toInt = 2 := rfl; omega)
                    obtain ⟨f22, h23, vh23⟩ := ab_fqa q p1_a_p1_Hx_40_2
                    refine go_aal (v := .ref 78) rfl h23 (by decide) (by show va_rf (f22 2) = _; rw [vh23]; rfl) ?_
                    refine go_s (pc' := 36) (lv' := [(0, .ref 1), (1, .int 2), (2, .int t), (3, .int n)]) (st' := [.int t, .ref 78]) rfl rfl rfl ?_
                    refine go_s (pc' := 37) (lv' := [(0, .ref 1), (1, .int 2), (2, .int t), (3, .int n)]) (st' := [.int n, .int t, .ref 78]) rfl rfl rfl ?_
                    refine go_cc rfl rfl (ab_cal_v (As := [.int t, .int n]) (rest := []) rfl rfl rfl (ab_fo q p1_o_p1_Hx_78 (by decide)) rfl rfl rfl rfl) (lv0 := [(0, .ref 78), (1, .int t), (2, .int n)]) rfl ?_
                    refine go_s (pc' := 1) (lv' := [(0, .ref 78), (1, .int t), (2, .int n)]) (st' := [.ref 78]) rfl rfl rfl ?_
                    refine go_s (pc' := 2) (lv' := [(0, .ref 78), (1, .int t), (2, .int n)]) (st' := [.int t, .ref 78]) rfl rfl rfl ?_
                    refine go_put (v := .int t) rfl (ab_fo q p1_o_p1_Hx_78 (by decide)) (Nat.le_of_ble_eq_true rfl) (ab_fit_i _) ?_
                    show ab_go 998 ab_M_X6_renew 5 [(0, .ref 78), (1, .int t), (2, .int n)] [] (ab_wr g 78 (.inr (6, [.int (-1), .ref 79, .int t]))) _
                    refine go_s (pc' := 6) (lv' := [(0, .ref 78), (1, .int t), (2, .int n)]) (st' := [.ref 78]) rfl rfl rfl ?_
                    refine go_s (pc' := 7) (lv' := [(0, .ref 78), (1, .int t), (2, .int n)]) (st' := [.int n, .ref 78]) rfl rfl rfl ?_
                    refine go_put (v := .int n) rfl (ab_rd_self (by show 78 < g.1; rw [hz]; decide)) (Nat.le_of_ble_eq_true rfl) (ab_fit_i _) ?_
                    show ab_go 998 ab_M_X6_renew 10 [(0, .ref 78), (1, .int t), (2, .int n)] [] (ab_wr (ab_wr g 78 (.inr (6, [.int (-1), .ref 79, .int t]))) 78 (.inr (6, [.int n, .ref 79, .int t]))) _
                    refine go_s (pc' := 11) (lv' := [(0, .ref 78), (1, .int t), (2, .int n)]) (st' := [.ref 78]) rfl rfl rfl ?_
                    refine go_get (v := .ref 79) rfl (ab_rd_self (by show 78 < g.1; rw [hz]; decide)) rfl ?_
                    refine go_iconst (v := 0) rfl (by decide) ?_
                    have hcx25 : ((ab_wr (ab_wr g 78 (.inr (6, [.int (-1), .ref 79, .int t]))) 78 (.inr (6, [.int n, .ref 79, .int t])))).2.2 79 = p1_H.2.2 79 := (by rw [ab_wr_at (by decide), ab_wr_at (by decide)]; exact p1_cell q (by decide))
                    refine go_c rfl rfl rfl (lv0 := [(0, .ref 79), (1, .int 0)]) rfl (go_sim p1_R19 (p1_fsim (a := 79) (h := (ab_wr (ab_wr g 78 (.inr (6, [.int (-1), .ref 79, .int t]))) 78 (.inr (6, [.int n, .ref 79, .int t])))) hz x0.2.1 hcx25)) (fun r0 g24 hr => ?_)
                    obtain ⟨rfl, z0, w0, q0, f0⟩ := hr
                    have x25 := p1_X.nxt2 (a := 79) ((x0.wr (by decide) _).wr (by decide) _) f0 (by decide) z0 w0
                    show ab_go 998 ab_M_X6_renew 18 [(0, .ref 78), (1, .int t), (2, .int n)] [] g24 _
                    refine go_rv rfl rfl ?_
                    show ab_go 999 ab_M_X9_sheet 40 [(0, .ref 1), (1, .int 2), (2, .int t), (3, .int n)] [] g24 _
                    refine go_iconst (v := 1) rfl (by decide) ?_
                    refine go_ri rfl rfl ?_
                    exact ⟨(by unfold an_sheet; first | (rw [if_pos (by omega)]; done) | (rw [if_neg (by omega)]; done) | (rw [if_neg (by omega), if_pos (by omega)]; done) | (rw [if_neg (by omega), if_neg (by omega)]; done) | (rw [if_pos (by omega), if_pos (by omega)]; done) | (rw [if_pos (by omega), if_neg (by omega)]; done) | decide | (simp; omega)), x25⟩
                  ·
                    obtain rfl : k = 3 := ab_i0 3 (by have e : (3 : Int32).toInt = 3 := rfl; omega)
                    obtain ⟨f26, h27, vh27⟩ := ab_fqa q p1_a_p1_Hx_40_3
                    refine go_aal (v := .ref 80) rfl h27 (by decide) (by show va_rf (f26 3) = _; rw [vh27]; rfl) ?_
                    refine go_s (pc' := 36) (lv' := [(0, .ref 1), (1, .int 3), (2, .int t), (3, .int n)]) (st' := [.int t, .ref 80]) rfl rfl rfl ?_
                    refine go_s (pc' := 37) (lv' := [(0, .ref 1), (1, .int 3), (2, .int t), (3, .int n)]) (st' := [.int n, .int t, .ref 80]) rfl rfl rfl ?_
                    refine go_cc rfl rfl (ab_cal_v (As := [.int t, .int n]) (rest := []) rfl rfl rfl (ab_fo q p1_o_p1_Hx_80 (by decide)) rfl rfl rfl rfl) (lv0 := [(0, .ref 80), (1, .int t), (2, .int n)]) rfl ?_
                    refine go_s (pc' := 1) (lv' := [(0, .ref 80), (1, .int t), (2, .int n)]) (st' := [.ref 80]) rfl rfl rfl ?_
                    refine go_s (pc' := 2) (lv' := [(0, .ref 80), (1, .int t), (2, .int n)]) (st' := [.int t, .ref 80]) rfl rfl rfl ?_
                    refine go_put (v := .int t) rfl (ab_fo q p1_o_p1_Hx_80 (by decide)) (Nat.le_of_ble_eq_true rfl) (ab_fit_i _) ?_
                    show ab_go 998 ab_M_X6_renew 5 [(0, .ref 80), (1, .int t), (2, .int n)] [] (ab_wr g 80 (.inr (6, [.int (-1), .ref 81, .int t]))) _
                    refine go_s (pc' := 6) (lv' := [(0, .ref 80), (1, .int t), (2, .int n)]) (st' := [.ref 80]) rfl rfl rfl ?_
                    refine go_s (pc' := 7) (lv' := [(0, .ref 80), (1, .int t), (2, .int n)]) (st' := [.int n, .ref 80]) rfl rfl rfl ?_
                    refine go_put (v := .int n) rfl (ab_rd_self (by show 80 < g.1; rw [hz]; decide)) (Nat.le_of_ble_eq_true rfl) (ab_fit_i _) ?_
                    show ab_go 998 ab_M_X6_renew 10 [(0, .ref 80), (1, .int t), (2, .int n)] [] (ab_wr (ab_wr g 80 (.inr (6, [.int (-1), .ref 81, .int t]))) 80 (.inr (6, [.int n, .ref 81, .int t]))) _
                    refine go_s (pc' := 11) (lv' := [(0, .ref 80), (1, .int t), (2, .int n)]) (st' := [.ref 80]) rfl rfl rfl ?_
                    refine go_get (v := .ref 81) rfl (ab_rd_self (by show 80 < g.1; rw [hz]; decide)) rfl ?_
                    refine go_iconst (v := 0) rfl (by decide) ?_
                    have hcx29 : ((ab_wr (ab_wr g 80 (.inr (6, [.int (-1), .ref 81, .int t]))) 80 (.inr (6, [.int n, .ref 81, .int t])))).2.2 81 = p1_H.2.2 81 := (by rw [ab_wr_at (by decide), ab_wr_at (by decide)]; exact p1_cell q (by decide))
                    refine go_c rfl rfl rfl (lv0 := [(0, .ref 81), (1, .int 0)]) rfl (go_sim p1_R20 (p1_fsim (a := 81) (h := (ab_wr (ab_wr g 80 (.inr (6, [.int (-1), .ref 81, .int t]))) 80 (.inr (6, [.int n, .ref 81, .int t])))) hz x0.2.1 hcx29)) (fun r0 g28 hr => ?_)
                    obtain ⟨rfl, z0, w0, q0, f0⟩ := hr
                    have x29 := p1_X.nxt2 (a := 81) ((x0.wr (by decide) _).wr (by decide) _) f0 (by decide) z0 w0
                    show ab_go 998 ab_M_X6_renew 18 [(0, .ref 80), (1, .int t), (2, .int n)] [] g28 _
                    refine go_rv rfl rfl ?_
                    show ab_go 999 ab_M_X9_sheet 40 [(0, .ref 1), (1, .int 3), (2, .int t), (3, .int n)] [] g28 _
                    refine go_iconst (v := 1) rfl (by decide) ?_
                    refine go_ri rfl rfl ?_
                    exact ⟨(by unfold an_sheet; first | (rw [if_pos (by omega)]; done) | (rw [if_neg (by omega)]; done) | (rw [if_neg (by omega), if_pos (by omega)]; done) | (rw [if_neg (by omega), if_neg (by omega)]; done) | (rw [if_pos (by omega), if_pos (by omega)]; done) | (rw [if_pos (by omega), if_neg (by omega)]; done) | decide | (simp; omega)), x29⟩
            ·
              have c30 : ¬ 0 ≤ n.toInt := c
              refine go_bipush (v := (-14)) rfl (by decide) ?_
              refine go_ri rfl rfl ?_
              exact ⟨(by unfold an_sheet; first | (rw [if_pos (by omega)]; done) | (rw [if_neg (by omega)]; done) | (rw [if_neg (by omega), if_pos (by omega)]; done) | (rw [if_neg (by omega), if_neg (by omega)]; done) | (rw [if_pos (by omega), if_pos (by omega)]; done) | (rw [if_pos (by omega), if_neg (by omega)]; done) | decide | (simp; omega)), x0⟩
          ·
            have c31 : ¬ n.toInt ≤ 64 := c
            refine go_iconst (v := (-1)) rfl (by decide) ?_
            refine go_ri rfl rfl ?_
            exact ⟨(by unfold an_sheet; first | (rw [if_pos (by omega)]; done) | (rw [if_neg (by omega)]; done) | (rw [if_neg (by omega), if_pos (by omega)]; done) | (rw [if_neg (by omega), if_neg (by omega)]; done) | (rw [if_pos (by omega), if_pos (by omega)]; done) | (rw [if_pos (by omega), if_neg (by omega)]; done) | decide | (simp; omega)), x0⟩
set_option maxHeartbeats 16000000 in
set_option maxRecDepth 20000 in
theorem x_lay {g : ab_H} (q : ab_sim p1_Sx p1_Hx g) (k : Int32) (i : Int32) (v : Int32) : ab_go 999 ab_M_X9_lay 0 [(0, .ref 1), (1, .int k), (2, .int i), (3, .int v)] [] g (fun r g' => r = some (.int (an_lay k)) ∧ p1_X g g') := by
  have hz : g.1 = 120 := q.1.symm
  have x0 : p1_X g g := ⟨q.1.symm, q.2.1.symm, fun _ _ => rfl⟩
  refine go_s (pc' := 1) (lv' := [(0, .ref 1), (1, .int k), (2, .int i), (3, .int v)]) (st' := [.int k]) rfl rfl rfl ?_
  refine go_cc rfl rfl rfl (lv0 := [(0, .int k)]) rfl ?_
  refine go_s (pc' := 1) (lv' := [(0, .int k)]) (st' := [.int k]) rfl rfl rfl ?_
  refine go_if (tgt := 13) rfl (by decide) (fun c => ?_) (fun c => ?_)
  ·
    have c1 : k.toInt < 0 := c
    refine go_iconst (v := 0) rfl (by decide) ?_
    refine go_rz rfl rfl (by decide) ?_
    show ab_go 999 ab_M_X9_lay 4 [(0, .ref 1), (1, .int k), (2, .int i), (3, .int v)] [.int 0] g _
    refine go_iff rfl (by decide) ?_
    refine go_iconst (v := (-1)) rfl (by decide) ?_
    refine go_ri rfl rfl ?_
    exact ⟨(by unfold an_lay; first | (rw [if_pos (by omega)]; done) | (rw [if_neg (by omega)]; done) | (rw [if_neg (by omega), if_pos (by omega)]; done) | (rw [if_neg (by omega), if_neg (by omega)]; done) | (rw [if_pos (by omega), if_pos (by omega)]; done) | (rw [if_pos (by omega), if_neg (by omega)]; done) | decide | (simp; omega)), x0⟩
  ·
    have c2 : ¬ k.toInt < 0 := c
    refine go_s (pc' := 5) (lv' := [(0, .int k)]) (st' := [.int k]) rfl rfl rfl ?_
    refine go_iconst (v := 4) rfl (by decide) ?_
    refine go_ic (tgt := 13) rfl (by decide) (fun c => ?_) (fun c => ?_)
    ·
      have c3 : 4 ≤ k.toInt := c
      refine go_iconst (v := 0) rfl (by decide) ?_
      refine go_rz rfl rfl (by decide) ?_
      show ab_go 999 ab_M_X9_lay 4 [(0, .ref 1), (1, .int k), (2, .int i), (3, .int v)] [.int 0] g _
      refine go_iff rfl (by decide) ?_
      refine go_iconst (v := (-1)) rfl (by decide) ?_
      refine go_ri rfl rfl ?_
      exact ⟨(by unfold an_lay; first | (rw [if_pos (by omega)]; done) | (rw [if_neg (by omega)]; done) | (rw [if_neg (by omega), if_pos (by omega)]; done) | (rw [if_neg (by omega), if_neg (by omega)]; done) | (rw [if_pos (by omega), if_pos (by omega)]; done) | (rw [if_pos (by omega), if_neg (by omega)]; done) | decide | (simp; omega)), x0⟩
    ·
      have c4 : ¬ 4 ≤ k.toInt := c
      refine go_iconst (v := 1) rfl (by decide) ?_
      refine go_goto (tgt := 14) rfl (by decide) ?_
      refine go_rz rfl rfl (by decide) ?_
      show ab_go 999 ab_M_X9_lay 4 [(0, .ref 1), (1, .int k), (2, .int i), (3, .int v)] [.int 1] g _
      refine go_ift (tgt := 9) rfl (by decide) (by decide) ?_
      refine go_s (pc' := 10) (lv' := [(0, .ref 1), (1, .int k), (2, .int i), (3, .int v)]) (st' := [.ref 1]) rfl rfl rfl ?_
      refine go_get (v := .ref 40) rfl (ab_fo q p1_o_p1_Hx_1 (by decide)) rfl ?_
      refine go_s (pc' := 14) (lv' := [(0, .ref 1), (1, .int k), (2, .int i), (3, .int v)]) (st' := [.int k, .ref 40]) rfl rfl rfl ?_
      by_cases c5 : k.toInt = 0
      ·
        obtain rfl : k = 0 := ab_i0 0 (by have e : (0 : Int32).toInt = 0 := rfl; omega)
        obtain ⟨f6, h7, vh7⟩ := ab_fqa q p1_a_p1_Hx_40_0
        refine go_aal (v := .ref 74) rfl h7 (by decide) (by show va_rf (f6 0) = _; rw [vh7]; rfl) ?_
        refine go_s (pc' := 17) (lv' := [(4, .ref 74), (0, .ref 1), (1, .int 0), (2, .int i), (3, .int v)]) (st' := []) rfl rfl rfl ?_
        refine go_s (pc' := 19) (lv' := [(4, .ref 74), (0, .ref 1), (1, .int 0), (2, .int i), (3, .int v)]) (st' := [.ref 74]) rfl rfl rfl ?_
        refine go_cc rfl rfl (ab_cal_v (As := []) (rest := []) rfl rfl rfl (ab_fo q p1_o_p1_Hx_74 (by decide)) rfl rfl rfl rfl) (lv0 := [(0, .ref 74)]) rfl ?_
        refine go_s (pc' := 1) (lv' := [(0, .ref 74)]) (st' := [.ref 74]) rfl rfl rfl ?_
        refine go_get (v := .int (-1)) rfl (ab_fo q p1_o_p1_Hx_74 (by decide)) rfl ?_
        refine go_iff rfl (by decide) ?_
        refine go_iconst (v := 1) rfl (by decide) ?_
        refine go_goto (tgt := 12) rfl (by decide) ?_
        refine go_rz rfl rfl (by decide) ?_
        show ab_go 999 ab_M_X9_lay 22 [(4, .ref 74), (0, .ref 1), (1, .int 0), (2, .int i), (3, .int v)] [.int 1] g _
        refine go_iff rfl (by decide) ?_
        refine go_bipush (v := (-11)) rfl (by decide) ?_
        refine go_ri rfl rfl ?_
        exact ⟨(by unfold an_lay; first | (rw [if_pos (by omega)]; done) | (rw [if_neg (by omega)]; done) | (rw [if_neg (by omega), if_pos (by omega)]; done) | (rw [if_neg (by omega), if_neg (by omega)]; done) | (rw [if_pos (by omega), if_pos (by omega)]; done) | (rw [if_pos (by omega), if_neg (by omega)]; done) | decide | (simp; omega)), x0⟩
      ·
        by_cases c8 : k.toInt = 1
        ·
          obtain rfl : k = 1 := ab_i0 1 (by have e : (1 : Int32).toInt = 1 := rfl; omega)
          obtain ⟨f9, h10, vh10⟩ := ab_fqa q p1_a_p1_Hx_40_1
          refine go_aal (v := .ref 76) rfl h10 (by decide) (by show va_rf (f9 1) = _; rw [vh10]; rfl) ?_
          refine go_s (pc' := 17) (lv' := [(4, .ref 76), (0, .ref 1), (1, .int 1), (2, .int i), (3, .int v)]) (st' := []) rfl rfl rfl ?_
          refine go_s (pc' := 19) (lv' := [(4, .ref 76), (0, .ref 1), (1, .int 1), (2, .int i), (3, .int v)]) (st' := [.ref 76]) rfl rfl rfl ?_
          refine go_cc rfl rfl (ab_cal_v (As := []) (rest := []) rfl rfl rfl (ab_fo q p1_o_p1_Hx_76 (by decide)) rfl rfl rfl rfl) (lv0 := [(0, .ref 76)]) rfl ?_
          refine go_s (pc' := 1) (lv' := [(0, .ref 76)]) (st' := [.ref 76]) rfl rfl rfl ?_
          refine go_get (v := .int (-1)) rfl (ab_fo q p1_o_p1_Hx_76 (by decide)) rfl ?_
          refine go_iff rfl (by decide) ?_
          refine go_iconst (v := 1) rfl (by decide) ?_
          refine go_goto (tgt := 12) rfl (by decide) ?_
          refine go_rz rfl rfl (by decide) ?_
          show ab_go 999 ab_M_X9_lay 22 [(4, .ref 76), (0, .ref 1), (1, .int 1), (2, .int i), (3, .int v)] [.int 1] g _
          refine go_iff rfl (by decide) ?_
          refine go_bipush (v := (-11)) rfl (by decide) ?_
          refine go_ri rfl rfl ?_
          exact ⟨(by unfold an_lay; first | (rw [if_pos (by omega)]; done) | (rw [if_neg (by omega)]; done) | (rw [if_neg (by omega), if_pos (by omega)]; done) | (rw [if_neg (by omega), if_neg (by omega)]; done) | (rw [if_pos (by omega), if_pos (by omega)]; done) | (rw [if_pos (by omega), if_neg (by omega)]; done) | decide | (simp; omega)), x0⟩
        ·
          by_cases c11 : k.toInt = 2
          ·
            obtain rfl : k = 2 := ab_i0 2 (by have e : (2 : Int32).toInt = 2 := rfl; omega)
            obtain ⟨f12, h13, vh13⟩ := ab_fqa q p1_a_p1_Hx_40_2
            refine go_aal (v := .ref 78) rfl h13 (by decide) (by show va_rf (f12 2) = _; rw [vh13]; rfl) ?_
            refine go_s (pc' := 17) (lv' := [(4, .ref 78), (0, .ref 1), (1, .int 2), (2, .int i), (3, .int v)]) (st' := []) rfl rfl rfl ?_
            refine go_s (pc' := 19) (lv' := [(4, .ref 78), (0, .ref 1), (1, .int 2), (2, .int i), (3, .int v)]) (st' := [.ref 78]) rfl rfl rfl ?_
            refine go_cc rfl rfl (ab_cal_v (As := []) (rest := []) rfl rfl rfl (ab_fo q p1_o_p1_Hx_78 (by decide)) rfl rfl rfl rfl) (lv0 := [(0, .ref 78)]) rfl ?_
            refine go_s (pc' := 1) (lv' := [(0, .ref 78)]) (st' := [.ref 78]) rfl rfl rfl ?_
            refine go_get (v := .int (-1)) rfl (ab_fo q p1_o_p1_Hx_78 (by decide)) rfl ?_
            refine go_iff rfl (by decide) ?_
            refine go_iconst (v := 1) rfl (by decide) ?_
            refine go_goto (tgt := 12) rfl (by decide) ?_
            refine go_rz rfl rfl (by decide) ?_
            show ab_go 999 ab_M_X9_lay 22 [(4, .ref 78), (0, .ref 1), (1, .int 2), (2, .int i), (3, .int v)] [.int 1] g _
            refine go_iff rfl (by decide) ?_
            refine go_bipush (v := (-11)) rfl (by decide) ?_
            refine go_ri rfl rfl ?_
            exact ⟨(by unfold an_lay; first | (rw [if_pos (by omega)]; done) | (rw [if_neg (by omega)]; done) | (rw [if_neg (by omega), if_pos (by omega)]; done) | (rw [if_neg (by omega), if_neg (by omega)]; done) | (rw [if_pos (by omega), if_pos (by omega)]; done) | (rw [if_pos (by omega), if_neg (by omega)]; done) | decide | (simp; omega)), x0⟩
          ·
            obtain rfl : k = 3 := ab_i0 3 (by have e : (3 : Int32).toInt = 3 := rfl; omega)
            obtain ⟨f14, h15, vh15⟩ := ab_fqa q p1_a_p1_Hx_40_3
            refine go_aal (v := .ref 80) rfl h15 (by decide) (by show va_rf (f14 3) = _; rw [vh15]; rfl) ?_
            refine go_s (pc' := 17) (lv' := [(4, .ref 80), (0, .ref 1), (1, .int 3), (2, .int i), (3, .int v)]) (st' := []) rfl rfl rfl ?_
            refine go_s (pc' := 19) (lv' := [(4, .ref 80), (0, .ref 1), (1, .int 3), (2, .int i), (3, .int v)]) (st' := [.ref 80]) rfl rfl rfl ?_
            refine go_cc rfl rfl (ab_cal_v (As := []) (rest := []) rfl rfl rfl (ab_fo q p1_o_p1_Hx_80 (by decide)) rfl rfl rfl rfl) (lv0 := [(0, .ref 80)]) rfl ?_
            refine go_s (pc' := 1) (lv' := [(0, .ref 80)]) (st' := [.ref 80]) rfl rfl rfl ?_
            refine go_get (v := .int (-1)) rfl (ab_fo q p1_o_p1_Hx_80 (by decide)) rfl ?_
            refine go_iff rfl (by decide) ?_
            refine go_iconst (v := 1) rfl (by decide) ?_
            refine go_goto (tgt := 12) rfl (by decide) ?_
            refine go_rz rfl rfl (by decide) ?_
            show ab_go 999 ab_M_X9_lay 22 [(4, .ref 80), (0, .ref 1), (1, .int 3), (2, .int i), (3, .int v)] [.int 1] g _
            refine go_iff rfl (by decide) ?_
            refine go_bipush (v := (-11)) rfl (by decide) ?_
            refine go_ri rfl rfl ?_
            exact ⟨(by unfold an_lay; first | (rw [if_pos (by omega)]; done) | (rw [if_neg (by omega)]; done) | (rw [if_neg (by omega), if_pos (by omega)]; done) | (rw [if_neg (by omega), if_neg (by omega)]; done) | (rw [if_pos (by omega), if_pos (by omega)]; done) | (rw [if_pos (by omega), if_neg (by omega)]; done) | decide | (simp; omega)), x0⟩
set_option maxHeartbeats 16000000 in
set_option maxRecDepth 20000 in
theorem x_row {g : ab_H} (q : ab_sim p1_Sx p1_Hx g) (k : Int32) (t : Int32) (f : Int32) (n : Int32) : ab_go 999 ab_M_X9_row 0 [(0, .ref 1), (1, .int k), (2, .int t), (3, .int f), (4, .int n)] [] g (fun r g' => r = some (.int (an_row k t n)) ∧ p1_X g g') := by
  have hz : g.1 = 120 := q.1.symm
  have x0 : p1_X g g := ⟨q.1.symm, q.2.1.symm, fun _ _ => rfl⟩
  refine go_s (pc' := 1) (lv' := [(0, .ref 1), (1, .int k), (2, .int t), (3, .int f), (4, .int n)]) (st' := [.int k]) rfl rfl rfl ?_
  refine go_cc rfl rfl rfl (lv0 := [(0, .int k)]) rfl ?_
  refine go_s (pc' := 1) (lv' := [(0, .int k)]) (st' := [.int k]) rfl rfl rfl ?_
  refine go_if (tgt := 13) rfl (by decide) (fun c => ?_) (fun c => ?_)
  ·
    have c1 : k.toInt < 0 := c
    refine go_iconst (v := 0) rfl (by decide) ?_
    refine go_rz rfl rfl (by decide) ?_
    show ab_go 999 ab_M_X9_row 4 [(0, .ref 1), (1, .int k), (2, .int t), (3, .int f), (4, .int n)] [.int 0] g _
    refine go_ift (tgt := 26) rfl (by decide) (by decide) ?_
    refine go_iconst (v := (-1)) rfl (by decide) ?_
    refine go_ri rfl rfl ?_
    exact ⟨(by unfold an_row; first | (rw [if_pos (by omega)]; done) | (rw [if_neg (by omega)]; done) | (rw [if_neg (by omega), if_pos (by omega)]; done) | (rw [if_neg (by omega), if_neg (by omega)]; done) | (rw [if_pos (by omega), if_pos (by omega)]; done) | (rw [if_pos (by omega), if_neg (by omega)]; done) | decide | (simp; omega)), x0⟩
  ·
    have c2 : ¬ k.toInt < 0 := c
    refine go_s (pc' := 5) (lv' := [(0, .int k)]) (st' := [.int k]) rfl rfl rfl ?_
    refine go_iconst (v := 4) rfl (by decide) ?_
    refine go_ic (tgt := 13) rfl (by decide) (fun c => ?_) (fun c => ?_)
    ·
      have c3 : 4 ≤ k.toInt := c
      refine go_iconst (v := 0) rfl (by decide) ?_
      refine go_rz rfl rfl (by decide) ?_
      show ab_go 999 ab_M_X9_row 4 [(0, .ref 1), (1, .int k), (2, .int t), (3, .int f), (4, .int n)] [.int 0] g _
      refine go_ift (tgt := 26) rfl (by decide) (by decide) ?_
      refine go_iconst (v := (-1)) rfl (by decide) ?_
      refine go_ri rfl rfl ?_
      exact ⟨(by unfold an_row; first | (rw [if_pos (by omega)]; done) | (rw [if_neg (by omega)]; done) | (rw [if_neg (by omega), if_pos (by omega)]; done) | (rw [if_neg (by omega), if_neg (by omega)]; done) | (rw [if_pos (by omega), if_pos (by omega)]; done) | (rw [if_pos (by omega), if_neg (by omega)]; done) | decide | (simp; omega)), x0⟩
    ·
      have c4 : ¬ 4 ≤ k.toInt := c
      refine go_iconst (v := 1) rfl (by decide) ?_
      refine go_goto (tgt := 14) rfl (by decide) ?_
      refine go_rz rfl rfl (by decide) ?_
      show ab_go 999 ab_M_X9_row 4 [(0, .ref 1), (1, .int k), (2, .int t), (3, .int f), (4, .int n)] [.int 1] g _
      refine go_iff rfl (by decide) ?_
      refine go_s (pc' := 8) (lv' := [(0, .ref 1), (1, .int k), (2, .int t), (3, .int f), (4, .int n)]) (st' := [.int t]) rfl rfl rfl ?_
      refine go_cc rfl rfl rfl (lv0 := [(0, .int t)]) rfl ?_
      refine go_s (pc' := 1) (lv' := [(0, .int t)]) (st' := [.int t]) rfl rfl rfl ?_
      refine go_if (tgt := 13) rfl (by decide) (fun c => ?_) (fun c => ?_)
      ·
        have c5 : t.toInt < 0 := c
        refine go_iconst (v := 0) rfl (by decide) ?_
        refine go_rz rfl rfl (by decide) ?_
        show ab_go 999 ab_M_X9_row 11 [(0, .ref 1), (1, .int k), (2, .int t), (3, .int f), (4, .int n)] [.int 0] g _
        refine go_ift (tgt := 26) rfl (by decide) (by decide) ?_
        refine go_iconst (v := (-1)) rfl (by decide) ?_
        refine go_ri rfl rfl ?_
        exact ⟨(by unfold an_row; first | (rw [if_pos (by omega)]; done) | (rw [if_neg (by omega)]; done) | (rw [if_neg (by omega), if_pos (by omega)]; done) | (rw [if_neg (by omega), if_neg (by omega)]; done) | (rw [if_pos (by omega), if_pos (by omega)]; done) | (rw [if_pos (by omega), if_neg (by omega)]; done) | decide | (simp; omega)), x0⟩
      ·
        have c6 : ¬ t.toInt < 0 := c
        refine go_s (pc' := 5) (lv' := [(0, .int t)]) (st' := [.int t]) rfl rfl rfl ?_
        refine go_iconst (v := 3) rfl (by decide) ?_
        refine go_ic (tgt := 13) rfl (by decide) (fun c => ?_) (fun c => ?_)
        ·
          have c7 : 3 ≤ t.toInt := c
          refine go_iconst (v := 0) rfl (by decide) ?_
          refine go_rz rfl rfl (by decide) ?_
          show ab_go 999 ab_M_X9_row 11 [(0, .ref 1), (1, .int k), (2, .int t), (3, .int f), (4, .int n)] [.int 0] g _
          refine go_ift (tgt := 26) rfl (by decide) (by decide) ?_
          refine go_iconst (v := (-1)) rfl (by decide) ?_
          refine go_ri rfl rfl ?_
          exact ⟨(by unfold an_row; first | (rw [if_pos (by omega)]; done) | (rw [if_neg (by omega)]; done) | (rw [if_neg (by omega), if_pos (by omega)]; done) | (rw [if_neg (by omega), if_neg (by omega)]; done) | (rw [if_pos (by omega), if_pos (by omega)]; done) | (rw [if_pos (by omega), if_neg (by omega)]; done) | decide | (simp; omega)), x0⟩
        ·
          have c8 : ¬ 3 ≤ t.toInt := c
          refine go_iconst (v := 1) rfl (by decide) ?_
          refine go_goto (tgt := 14) rfl (by decide) ?_
          refine go_rz rfl rfl (by decide) ?_
          show ab_go 999 ab_M_X9_row 11 [(0, .ref 1), (1, .int k), (2, .int t), (3, .int f), (4, .int n)] [.int 1] g _
          refine go_iff rfl (by decide) ?_
          refine go_s (pc' := 16) (lv' := [(0, .ref 1), (1, .int k), (2, .int t), (3, .int f), (4, .int n)]) (st' := [.int n]) rfl rfl rfl ?_
          refine go_if (tgt := 26) rfl (by decide) (fun c => ?_) (fun c => ?_)
          ·
            have c9 : n.toInt < 0 := c
            refine go_iconst (v := (-1)) rfl (by decide) ?_
            refine go_ri rfl rfl ?_
            exact ⟨(by unfold an_row; first | (rw [if_pos (by omega)]; done) | (rw [if_neg (by omega)]; done) | (rw [if_neg (by omega), if_pos (by omega)]; done) | (rw [if_neg (by omega), if_neg (by omega)]; done) | (rw [if_pos (by omega), if_pos (by omega)]; done) | (rw [if_pos (by omega), if_neg (by omega)]; done) | decide | (simp; omega)), x0⟩
          ·
            have c10 : ¬ n.toInt < 0 := c
            refine go_s (pc' := 21) (lv' := [(0, .ref 1), (1, .int k), (2, .int t), (3, .int f), (4, .int n)]) (st' := [.int n]) rfl rfl rfl ?_
            refine go_bipush (v := 64) rfl (by decide) ?_
            refine go_ic (tgt := 28) rfl (by decide) (fun c => ?_) (fun c => ?_)
            ·
              have c11 : n.toInt ≤ 64 := c
              refine go_s (pc' := 29) (lv' := [(0, .ref 1), (1, .int k), (2, .int t), (3, .int f), (4, .int n)]) (st' := [.ref 1]) rfl rfl rfl ?_
              refine go_get (v := .ref 40) rfl (ab_fo q p1_o_p1_Hx_1 (by decide)) rfl ?_
              refine go_s (pc' := 33) (lv' := [(0, .ref 1), (1, .int k), (2, .int t), (3, .int f), (4, .int n)]) (st' := [.int k, .ref 40]) rfl rfl rfl ?_
              by_cases c12 : k.toInt = 0
              ·
                obtain rfl : k = 0 := ab_i0 0 (by have e : (0 : Int32).toInt = 0 := rfl; omega)
                obtain ⟨f13, h14, vh14⟩ := ab_fqa q p1_a_p1_Hx_40_0
                refine go_aal (v := .ref 74) rfl h14 (by decide) (by show va_rf (f13 0) = _; rw [vh14]; rfl) ?_
                refine go_s (pc' := 36) (lv' := [(5, .ref 74), (0, .ref 1), (1, .int 0), (2, .int t), (3, .int f), (4, .int n)]) (st' := []) rfl rfl rfl ?_
                refine go_s (pc' := 38) (lv' := [(5, .ref 74), (0, .ref 1), (1, .int 0), (2, .int t), (3, .int f), (4, .int n)]) (st' := [.ref 74]) rfl rfl rfl ?_
                refine go_s (pc' := 39) (lv' := [(5, .ref 74), (0, .ref 1), (1, .int 0), (2, .int t), (3, .int f), (4, .int n)]) (st' := [.int t, .ref 74]) rfl rfl rfl ?_
                refine go_cc rfl rfl (ab_cal_v (As := [.int t]) (rest := []) rfl rfl rfl (ab_fo q p1_o_p1_Hx_74 (by decide)) rfl rfl rfl rfl) (lv0 := [(0, .ref 74), (1, .int t)]) rfl ?_
                refine go_s (pc' := 1) (lv' := [(0, .ref 74), (1, .int t)]) (st' := [.ref 74]) rfl rfl rfl ?_
                refine go_cc rfl rfl (ab_cal_v (As := []) (rest := []) rfl rfl rfl (ab_fo q p1_o_p1_Hx_74 (by decide)) rfl rfl rfl rfl) (lv0 := [(0, .ref 74)]) rfl ?_
                refine go_s (pc' := 1) (lv' := [(0, .ref 74)]) (st' := [.ref 74]) rfl rfl rfl ?_
                refine go_get (v := .int (-1)) rfl (ab_fo q p1_o_p1_Hx_74 (by decide)) rfl ?_
                refine go_iff rfl (by decide) ?_
                refine go_iconst (v := 1) rfl (by decide) ?_
                refine go_goto (tgt := 12) rfl (by decide) ?_
                refine go_rz rfl rfl (by decide) ?_
                show ab_go 998 ab_M_X6_faultAs 4 [(0, .ref 74), (1, .int t)] [.int 1] g _
                refine go_iff rfl (by decide) ?_
                refine go_iconst (v := 1) rfl (by decide) ?_
                refine go_ri rfl rfl ?_
                show ab_go 999 ab_M_X9_row 42 [(5, .ref 74), (0, .ref 1), (1, .int 0), (2, .int t), (3, .int f), (4, .int n)] [.int 1] g _
                refine go_s (pc' := 44) (lv' := [(6, .int 1), (5, .ref 74), (0, .ref 1), (1, .int 0), (2, .int t), (3, .int f), (4, .int n)]) (st' := []) rfl rfl rfl ?_
                refine go_s (pc' := 46) (lv' := [(6, .int 1), (5, .ref 74), (0, .ref 1), (1, .int 0), (2, .int t), (3, .int f), (4, .int n)]) (st' := [.int 1]) rfl rfl rfl ?_
                refine go_iff rfl (by decide) ?_
                refine go_bipush (v := (-10)) rfl (by decide) ?_
                refine go_s (pc' := 53) (lv' := [(6, .int 1), (5, .ref 74), (0, .ref 1), (1, .int 0), (2, .int t), (3, .int f), (4, .int n)]) (st' := [.int 1, .int (-10)]) rfl rfl rfl ?_
                refine go_b2 (v := (-11)) rfl rfl (fun _ => rfl) (by decide) ?_
                refine go_ri rfl rfl ?_
                exact ⟨(by unfold an_row; first | (rw [if_pos (by omega)]; done) | (rw [if_neg (by omega)]; done) | (rw [if_neg (by omega), if_pos (by omega)]; done) | (rw [if_neg (by omega), if_neg (by omega)]; done) | (rw [if_pos (by omega), if_pos (by omega)]; done) | (rw [if_pos (by omega), if_neg (by omega)]; done) | decide | (simp; omega)), x0⟩
              ·
                by_cases c15 : k.toInt = 1
                ·
                  obtain rfl : k = 1 := ab_i0 1 (by have e : (1 : Int32).toInt = 1 := rfl; omega)
                  obtain ⟨f16, h17, vh17⟩ := ab_fqa q p1_a_p1_Hx_40_1
                  refine go_aal (v := .ref 76) rfl h17 (by decide) (by show va_rf (f16 1) = _; rw [vh17]; rfl) ?_
                  refine go_s (pc' := 36) (lv' := [(5, .ref 76), (0, .ref 1), (1, .int 1), (2, .int t), (3, .int f), (4, .int n)]) (st' := []) rfl rfl rfl ?_
                  refine go_s (pc' := 38) (lv' := [(5, .ref 76), (0, .ref 1), (1, .int 1), (2, .int t), (3, .int f), (4, .int n)]) (st' := [.ref 76]) rfl rfl rfl ?_
                  refine go_s (pc' := 39) (lv' := [(5, .ref 76), (0, .ref 1), (1, .int 1), (2, .int t), (3, .int f), (4, .int n)]) (st' := [.int t, .ref 76]) rfl rfl rfl ?_
                  refine go_cc rfl rfl (ab_cal_v (As := [.int t]) (rest := []) rfl rfl rfl (ab_fo q p1_o_p1_Hx_76 (by decide)) rfl rfl rfl rfl) (lv0 := [(0, .ref 76), (1, .int t)]) rfl ?_
                  refine go_s (pc' := 1) (lv' := [(0, .ref 76), (1, .int t)]) (st' := [.ref 76]) rfl rfl rfl ?_
                  refine go_cc rfl rfl (ab_cal_v (As := []) (rest := []) rfl rfl rfl (ab_fo q p1_o_p1_Hx_76 (by decide)) rfl rfl rfl rfl) (lv0 := [(0, .ref 76)]) rfl ?_
                  refine go_s (pc' := 1) (lv' := [(0, .ref 76)]) (st' := [.ref 76]) rfl rfl rfl ?_
                  refine go_get (v := .int (-1)) rfl (ab_fo q p1_o_p1_Hx_76 (by decide)) rfl ?_
                  refine go_iff rfl (by decide) ?_
                  refine go_iconst (v := 1) rfl (by decide) ?_
                  refine go_goto (tgt := 12) rfl (by decide) ?_
                  refine go_rz rfl rfl (by decide) ?_
                  show ab_go 998 ab_M_X6_faultAs 4 [(0, .ref 76), (1, .int t)] [.int 1] g _
                  refine go_iff rfl (by decide) ?_
                  refine go_iconst (v := 1) rfl (by decide) ?_
                  refine go_ri rfl rfl ?_
                  show ab_go 999 ab_M_X9_row 42 [(5, .ref 76), (0, .ref 1), (1, .int 1), (2, .int t), (3, .int f), (4, .int n)] [.int 1] g _
                  refine go_s (pc' := 44) (lv' := [(6, .int 1), (5, .ref 76), (0, .ref 1), (1, .int 1), (2, .int t), (3, .int f), (4, .int n)]) (st' := []) rfl rfl rfl ?_
                  refine go_s (pc' := 46) (lv' := [(6, .int 1), (5, .ref 76), (0, .ref 1), (1, .int 1), (2, .int t), (3, .int f), (4, .int n)]) (st' := [.int 1]) rfl rfl rfl ?_
                  refine go_iff rfl (by decide) ?_
                  refine go_bipush (v := (-10)) rfl (by decide) ?_
                  refine go_s (pc' := 53) (lv' := [(6, .int 1), (5, .ref 76), (0, .ref 1), (1, .int 1), (2, .int t), (3, .int f), (4, .int n)]) (st' := [.int 1, .int (-10)]) rfl rfl rfl ?_
                  refine go_b2 (v := (-11)) rfl rfl (fun _ => rfl) (by decide) ?_
                  refine go_ri rfl rfl ?_
                  exact ⟨(by unfold an_row; first | (rw [if_pos (by omega)]; done) | (rw [if_neg (by omega)]; done) | (rw [if_neg (by omega), if_pos (by omega)]; done) | (rw [if_neg (by omega), if_neg (by omega)]; done) | (rw [if_pos (by omega), if_pos (by omega)]; done) | (rw [if_pos (by omega), if_neg (by omega)]; done) | decide | (simp; omega)), x0⟩
                ·
                  by_cases c18 : k.toInt = 2
                  ·
                    obtain rfl : k = 2 := ab_i0 2 (by have e : (2 : Int32).toInt = 2 := rfl; omega)
                    obtain ⟨f19, h20, vh20⟩ := ab_fqa q p1_a_p1_Hx_40_2
                    refine go_aal (v := .ref 78) rfl h20 (by decide) (by show va_rf (f19 2) = _; rw [vh20]; rfl) ?_
                    refine go_s (pc' := 36) (lv' := [(5, .ref 78), (0, .ref 1), (1, .int 2), (2, .int t), (3, .int f), (4, .int n)]) (st' := []) rfl rfl rfl ?_
                    refine go_s (pc' := 38) (lv' := [(5, .ref 78), (0, .ref 1), (1, .int 2), (2, .int t), (3, .int f), (4, .int n)]) (st' := [.ref 78]) rfl rfl rfl ?_
                    refine go_s (pc' := 39) (lv' := [(5, .ref 78), (0, .ref 1), (1, .int 2), (2, .int t), (3, .int f), (4, .int n)]) (st' := [.int t, .ref 78]) rfl rfl rfl ?_
                    refine go_cc rfl rfl (ab_cal_v (As := [.int t]) (rest := []) rfl rfl rfl (ab_fo q p1_o_p1_Hx_78 (by decide)) rfl rfl rfl rfl) (lv0 := [(0, .ref 78), (1, .int t)]) rfl ?_
                    refine go_s (pc' := 1) (lv' := [(0, .ref 78), (1, .int t)]) (st' := [.ref 78]) rfl rfl rfl ?_
                    refine go_cc rfl rfl (ab_cal_v (As := []) (rest := []) rfl rfl rfl (ab_fo q p1_o_p1_Hx_78 (by decide)) rfl rfl rfl rfl) (lv0 := [(0, .ref 78)]) rfl ?_
                    refine go_s (pc' := 1) (lv' := [(0, .ref 78)]) (st' := [.ref 78]) rfl rfl rfl ?_
                    refine go_get (v := .int (-1)) rfl (ab_fo q p1_o_p1_Hx_78 (by decide)) rfl ?_
                    refine go_iff rfl (by decide) ?_
                    refine go_iconst (v := 1) rfl (by decide) ?_
                    refine go_goto (tgt := 12) rfl (by decide) ?_
                    refine go_rz rfl rfl (by decide) ?_
                    show ab_go 998 ab_M_X6_faultAs 4 [(0, .ref 78), (1, .int t)] [.int 1] g _
                    refine go_iff rfl (by decide) ?_
                    refine go_iconst (v := 1) rfl (by decide) ?_
                    refine go_ri rfl rfl ?_
                    show ab_go 999 ab_M_X9_row 42 [(5, .ref 78), (0, .ref 1), (1, .int 2), (2, .int t), (3, .int f), (4, .int n)] [.int 1] g _
                    refine go_s (pc' := 44) (lv' := [(6, .int 1), (5, .ref 78), (0, .ref 1), (1, .int 2), (2, .int t), (3, .int f), (4, .int n)]) (st' := []) rfl rfl rfl ?_
                    refine go_s (pc' := 46) (lv' := [(6, .int 1), (5, .ref 78), (0, .ref 1), (1, .int 2), (2, .int t), (3, .int f), (4, .int n)]) (st' := [.int 1]) rfl rfl rfl ?_
                    refine go_iff rfl (by decide) ?_
                    refine go_bipush (v := (-10)) rfl (by decide) ?_
                    refine go_s (pc' := 53) (lv' := [(6, .int 1), (5, .ref 78), (0, .ref 1), (1, .int 2), (2, .int t), (3, .int f), (4, .int n)]) (st' := [.int 1, .int (-10)]) rfl rfl rfl ?_
                    refine go_b2 (v := (-11)) rfl rfl (fun _ => rfl) (by decide) ?_
                    refine go_ri rfl rfl ?_
                    exact ⟨(by unfold an_row; first | (rw [if_pos (by omega)]; done) | (rw [if_neg (by omega)]; done) | (rw [if_neg (by omega), if_pos (by omega)]; done) | (rw [if_neg (by omega), if_neg (by omega)]; done) | (rw [if_pos (by omega), if_pos (by omega)]; done) | (rw [if_pos (by omega), if_neg (by omega)]; done) | decide | (simp; omega)), x0⟩
                  ·
                    obtain rfl : k = 3 := ab_i0 3 (by have e : (3 : Int32).toInt = 3 := rfl; omega)
                    obtain ⟨f21, h22, vh22⟩ := ab_fqa q p1_a_p1_Hx_40_3
                    refine go_aal (v := .ref 80) rfl h22 (by decide) (by show va_rf (f21 3) = _; rw [vh22]; rfl) ?_
                    refine go_s (pc' := 36) (lv' := [(5, .ref 80), (0, .ref 1), (1, .int 3), (2, .int t), (3, .int f), (4, .int n)]) (st' := []) rfl rfl rfl ?_
                    refine go_s (pc' := 38) (lv' := [(5, .ref 80), (0, .ref 1), (1, .int 3), (2, .int t), (3, .int f), (4, .int n)]) (st' := [.ref 80]) rfl rfl rfl ?_
                    refine go_s (pc' := 39) (lv' := [(5, .ref 80), (0, .ref 1), (1, .int 3), (2, .int t), (3, .int f), (4, .int n)]) (st' := [.int t, .ref 80]) rfl rfl rfl ?_
                    refine go_cc rfl rfl (ab_cal_v (As := [.int t]) (rest := []) rfl rfl rfl (ab_fo q p1_o_p1_Hx_80 (by decide)) rfl rfl rfl rfl) (lv0 := [(0, .ref 80), (1, .int t)]) rfl ?_
                    refine go_s (pc' := 1) (lv' := [(0, .ref 80), (1, .int t)]) (st' := [.ref 80]) rfl rfl rfl ?_
                    refine go_cc rfl rfl (ab_cal_v (As := []) (rest := []) rfl rfl rfl (ab_fo q p1_o_p1_Hx_80 (by decide)) rfl rfl rfl rfl) (lv0 := [(0, .ref 80)]) rfl ?_
                    refine go_s (pc' := 1) (lv' := [(0, .ref 80)]) (st' := [.ref 80]) rfl rfl rfl ?_
                    refine go_get (v := .int (-1)) rfl (ab_fo q p1_o_p1_Hx_80 (by decide)) rfl ?_
                    refine go_iff rfl (by decide) ?_
                    refine go_iconst (v := 1) rfl (by decide) ?_
                    refine go_goto (tgt := 12) rfl (by decide) ?_
                    refine go_rz rfl rfl (by decide) ?_
                    show ab_go 998 ab_M_X6_faultAs 4 [(0, .ref 80), (1, .int t)] [.int 1] g _
                    refine go_iff rfl (by decide) ?_
                    refine go_iconst (v := 1) rfl (by decide) ?_
                    refine go_ri rfl rfl ?_
                    show ab_go 999 ab_M_X9_row 42 [(5, .ref 80), (0, .ref 1), (1, .int 3), (2, .int t), (3, .int f), (4, .int n)] [.int 1] g _
                    refine go_s (pc' := 44) (lv' := [(6, .int 1), (5, .ref 80), (0, .ref 1), (1, .int 3), (2, .int t), (3, .int f), (4, .int n)]) (st' := []) rfl rfl rfl ?_
                    refine go_s (pc' := 46) (lv' := [(6, .int 1), (5, .ref 80), (0, .ref 1), (1, .int 3), (2, .int t), (3, .int f), (4, .int n)]) (st' := [.int 1]) rfl rfl rfl ?_
                    refine go_iff rfl (by decide) ?_
                    refine go_bipush (v := (-10)) rfl (by decide) ?_
                    refine go_s (pc' := 53) (lv' := [(6, .int 1), (5, .ref 80), (0, .ref 1), (1, .int 3), (2, .int t), (3, .int f), (4, .int n)]) (st' := [.int 1, .int (-10)]) rfl rfl rfl ?_
                    refine go_b2 (v := (-11)) rfl rfl (fun _ => rfl) (by decide) ?_
                    refine go_ri rfl rfl ?_
                    exact ⟨(by unfold an_row; first | (rw [if_pos (by omega)]; done) | (rw [if_neg (by omega)]; done) | (rw [if_neg (by omega), if_pos (by omega)]; done) | (rw [if_neg (by omega), if_neg (by omega)]; done) | (rw [if_pos (by omega), if_pos (by omega)]; done) | (rw [if_pos (by omega), if_neg (by omega)]; done) | decide | (simp; omega)), x0⟩
            ·
              have c23 : ¬ n.toInt ≤ 64 := c
              refine go_iconst (v := (-1)) rfl (by decide) ?_
              refine go_ri rfl rfl ?_
              exact ⟨(by unfold an_row; first | (rw [if_pos (by omega)]; done) | (rw [if_neg (by omega)]; done) | (rw [if_neg (by omega), if_pos (by omega)]; done) | (rw [if_neg (by omega), if_neg (by omega)]; done) | (rw [if_pos (by omega), if_pos (by omega)]; done) | (rw [if_pos (by omega), if_neg (by omega)]; done) | decide | (simp; omega)), x0⟩
set_option maxHeartbeats 16000000 in
set_option maxRecDepth 20000 in
theorem x_count {g : ab_H} (q : ab_sim p1_Sx p1_Hx g) (w : Int32) : ab_go 999 ab_M_X9_count 0 [(0, .ref 1), (1, .int w)] [] g (fun r g' => r = some (.int (an_count w)) ∧ p1_X g g') := by
  have hz : g.1 = 120 := q.1.symm
  have x0 : p1_X g g := ⟨q.1.symm, q.2.1.symm, fun _ _ => rfl⟩
  refine go_s (pc' := 1) (lv' := [(0, .ref 1), (1, .int w)]) (st' := [.int w]) rfl rfl rfl ?_
  by_cases c1 : w.toInt = 0
  ·
    refine go_tin (tgt := 44) 0 rfl c1 (by decide) rfl (by decide) ?_
    refine go_s (pc' := 45) (lv' := [(0, .ref 1), (1, .int w)]) (st' := [.ref 1]) rfl rfl rfl ?_
    refine go_get (v := .ref 41) rfl (ab_fo q p1_o_p1_Hx_1 (by decide)) rfl ?_
    refine go_get (v := .int 0) rfl (ab_fo q p1_o_p1_Hx_41 (by decide)) rfl ?_
    refine go_ri rfl rfl ?_
    exact ⟨(by unfold an_count; first | (rw [if_pos (by omega)]; done) | (rw [if_neg (by omega)]; done) | (rw [if_neg (by omega), if_pos (by omega)]; done) | (rw [if_neg (by omega), if_neg (by omega)]; done) | (rw [if_pos (by omega), if_pos (by omega)]; done) | (rw [if_pos (by omega), if_neg (by omega)]; done) | decide | (simp; omega)), x0⟩
  ·
    by_cases c2 : w.toInt = 1
    ·
      refine go_tin (tgt := 52) 1 rfl c2 (by decide) rfl (by decide) ?_
      refine go_s (pc' := 53) (lv' := [(0, .ref 1), (1, .int w)]) (st' := [.ref 1]) rfl rfl rfl ?_
      refine go_get (v := .ref 41) rfl (ab_fo q p1_o_p1_Hx_1 (by decide)) rfl ?_
      refine go_get (v := .int 0) rfl (ab_fo q p1_o_p1_Hx_41 (by decide)) rfl ?_
      refine go_ri rfl rfl ?_
      exact ⟨(by unfold an_count; first | (rw [if_pos (by omega)]; done) | (rw [if_neg (by omega)]; done) | (rw [if_neg (by omega), if_pos (by omega)]; done) | (rw [if_neg (by omega), if_neg (by omega)]; done) | (rw [if_pos (by omega), if_pos (by omega)]; done) | (rw [if_pos (by omega), if_neg (by omega)]; done) | decide | (simp; omega)), x0⟩
    ·
      by_cases c3 : w.toInt = 2
      ·
        refine go_tin (tgt := 60) 2 rfl c3 (by decide) rfl (by decide) ?_
        refine go_s (pc' := 61) (lv' := [(0, .ref 1), (1, .int w)]) (st' := [.ref 1]) rfl rfl rfl ?_
        refine go_get (v := .ref 41) rfl (ab_fo q p1_o_p1_Hx_1 (by decide)) rfl ?_
        refine go_get (v := .int 0) rfl (ab_fo q p1_o_p1_Hx_41 (by decide)) rfl ?_
        refine go_ri rfl rfl ?_
        exact ⟨(by unfold an_count; first | (rw [if_pos (by omega)]; done) | (rw [if_neg (by omega)]; done) | (rw [if_neg (by omega), if_pos (by omega)]; done) | (rw [if_neg (by omega), if_neg (by omega)]; done) | (rw [if_pos (by omega), if_pos (by omega)]; done) | (rw [if_pos (by omega), if_neg (by omega)]; done) | decide | (simp; omega)), x0⟩
      ·
        by_cases c4 : w.toInt = 3
        ·
          refine go_tin (tgt := 68) 3 rfl c4 (by decide) rfl (by decide) ?_
          refine go_s (pc' := 69) (lv' := [(0, .ref 1), (1, .int w)]) (st' := [.ref 1]) rfl rfl rfl ?_
          refine go_get (v := .ref 41) rfl (ab_fo q p1_o_p1_Hx_1 (by decide)) rfl ?_
          refine go_get (v := .int 0) rfl (ab_fo q p1_o_p1_Hx_41 (by decide)) rfl ?_
          refine go_c rfl rfl rfl (lv0 := [(0, .int 0)]) rfl (go_sim p1_R21 q) (fun r0 g5 hr => ?_)
          obtain ⟨rfl, z8, w0, q6, f0⟩ := hr
          have x7 := x0.next f0 z8 w0
          show ab_go 999 ab_M_X9_count 78 [(0, .ref 1), (1, .int w)] [.int 0] g5 _
          refine go_ri rfl rfl ?_
          exact ⟨(by unfold an_count; first | (rw [if_pos (by omega)]; done) | (rw [if_neg (by omega)]; done) | (rw [if_neg (by omega), if_pos (by omega)]; done) | (rw [if_neg (by omega), if_neg (by omega)]; done) | (rw [if_pos (by omega), if_pos (by omega)]; done) | (rw [if_pos (by omega), if_neg (by omega)]; done) | decide | (simp; omega)), x7⟩
        ·
          by_cases c9 : w.toInt = 4
          ·
            refine go_tin (tgt := 79) 4 rfl c9 (by decide) rfl (by decide) ?_
            refine go_s (pc' := 80) (lv' := [(0, .ref 1), (1, .int w)]) (st' := [.ref 1]) rfl rfl rfl ?_
            refine go_get (v := .ref 37) rfl (ab_fo q p1_o_p1_Hx_1 (by decide)) rfl ?_
            refine go_get (v := .int 0) rfl (ab_fo q p1_o_p1_Hx_37 (by decide)) rfl ?_
            refine go_ri rfl rfl ?_
            exact ⟨(by unfold an_count; first | (rw [if_pos (by omega)]; done) | (rw [if_neg (by omega)]; done) | (rw [if_neg (by omega), if_pos (by omega)]; done) | (rw [if_neg (by omega), if_neg (by omega)]; done) | (rw [if_pos (by omega), if_pos (by omega)]; done) | (rw [if_pos (by omega), if_neg (by omega)]; done) | decide | (simp; omega)), x0⟩
          ·
            by_cases c10 : w.toInt = 5
            ·
              refine go_tin (tgt := 87) 5 rfl c10 (by decide) rfl (by decide) ?_
              refine go_s (pc' := 88) (lv' := [(0, .ref 1), (1, .int w)]) (st' := [.ref 1]) rfl rfl rfl ?_
              refine go_get (v := .ref 2) rfl (ab_fo q p1_o_p1_Hx_1 (by decide)) rfl ?_
              refine go_get (v := .int 0) rfl (ab_fo q p1_o_p1_Hx_2 (by decide)) rfl ?_
              refine go_ri rfl rfl ?_
              exact ⟨(by unfold an_count; first | (rw [if_pos (by omega)]; done) | (rw [if_neg (by omega)]; done) | (rw [if_neg (by omega), if_pos (by omega)]; done) | (rw [if_neg (by omega), if_neg (by omega)]; done) | (rw [if_pos (by omega), if_pos (by omega)]; done) | (rw [if_pos (by omega), if_neg (by omega)]; done) | decide | (simp; omega)), x0⟩
            ·
              by_cases c11 : w.toInt = 6
              ·
                refine go_tin (tgt := 95) 6 rfl c11 (by decide) rfl (by decide) ?_
                refine go_s (pc' := 96) (lv' := [(0, .ref 1), (1, .int w)]) (st' := [.ref 1]) rfl rfl rfl ?_
                refine go_get (v := .ref 40) rfl (ab_fo q p1_o_p1_Hx_1 (by decide)) rfl ?_
                refine go_iconst (v := 0) rfl (by decide) ?_
                obtain ⟨f12, h13, vh13⟩ := ab_fqa q p1_a_p1_Hx_40_0
                refine go_aal (v := .ref 74) rfl h13 (by decide) (by show va_rf (f12 0) = _; rw [vh13]; rfl) ?_
                refine go_cc rfl rfl (ab_cal_v (As := []) (rest := []) rfl rfl rfl (ab_fo q p1_o_p1_Hx_74 (by decide)) rfl rfl rfl rfl) (lv0 := [(0, .ref 74)]) rfl ?_
                refine go_s (pc' := 1) (lv' := [(0, .ref 74)]) (st' := [.ref 74]) rfl rfl rfl ?_
                refine go_get (v := .int (-1)) rfl (ab_fo q p1_o_p1_Hx_74 (by decide)) rfl ?_
                refine go_iff rfl (by decide) ?_
                refine go_iconst (v := 1) rfl (by decide) ?_
                refine go_goto (tgt := 12) rfl (by decide) ?_
                refine go_rz rfl rfl (by decide) ?_
                show ab_go 999 ab_M_X9_count 104 [(0, .ref 1), (1, .int w)] [.int 1] g _
                refine go_iff rfl (by decide) ?_
                refine go_bipush (v := (-4)) rfl (by decide) ?_
                refine go_goto (tgt := 121) rfl (by decide) ?_
                refine go_ri rfl rfl ?_
                exact ⟨(by unfold an_count; first | (rw [if_pos (by omega)]; done) | (rw [if_neg (by omega)]; done) | (rw [if_neg (by omega), if_pos (by omega)]; done) | (rw [if_neg (by omega), if_neg (by omega)]; done) | (rw [if_pos (by omega), if_pos (by omega)]; done) | (rw [if_pos (by omega), if_neg (by omega)]; done) | decide | (simp; omega)), x0⟩
              ·
                refine go_tout (tgt := 122) rfl (by omega) (by decide) ?_
                refine go_iconst (v := (-1)) rfl (by decide) ?_
                refine go_ri rfl rfl ?_
                exact ⟨(by unfold an_count; first | (rw [if_pos (by omega)]; done) | (rw [if_neg (by omega)]; done) | (rw [if_neg (by omega), if_pos (by omega)]; done) | (rw [if_neg (by omega), if_neg (by omega)]; done) | (rw [if_pos (by omega), if_pos (by omega)]; done) | (rw [if_pos (by omega), if_neg (by omega)]; done) | decide | (simp; omega)), x0⟩
