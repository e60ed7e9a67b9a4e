set_option maxHeartbeats 16000000 in
set_option maxRecDepth 20000 in
theorem m_cost {g : ab_H} (q : ab_sim p1_Sm p1_Hm g) : ab_go 999 ab_M_X10_cost 0 [(0, .ref 82)] [] g (fun r g' => r = some (.int 0) ∧ p1_Y g g') := by
  have x0 : p1_Y g g := ⟨q.1.symm, q.2.1.symm, rfl⟩
  obtain ⟨n, r, hF, hx, hr, z, w0, q1, f0⟩ := go_sim p1_R33 q
  exact ⟨n, r, hF, hx, hr, x0.next f0 z w0⟩
set_option maxHeartbeats 16000000 in
set_option maxRecDepth 20000 in
theorem m_would {g : ab_H} (q : ab_sim p1_Sm p1_Hm g) (e : Int32) (f : Int32) : ab_go 999 ab_M_X10_would 0 [(0, .ref 82), (1, .int e), (2, .int f)] [] g (fun r g' => r = some (.int (-1)) ∧ p1_Y g g') := by
  have hz : g.1 = 120 := q.1.symm
  have x0 : p1_Y g g := ⟨q.1.symm, q.2.1.symm, rfl⟩
  refine go_s (pc' := 1) (lv' := [(0, .ref 82), (1, .int e), (2, .int f)]) (st' := [.ref 82]) rfl rfl rfl ?_
  refine go_s (pc' := 2) (lv' := [(0, .ref 82), (1, .int e), (2, .int f)]) (st' := [.int e, .ref 82]) rfl rfl rfl ?_
  refine go_cc rfl rfl (ab_cal_v (As := [.int e]) (rest := []) rfl rfl rfl (ab_fo q p1_o_p1_Hm_82 (by decide)) rfl rfl rfl rfl) (lv0 := [(0, .ref 82), (1, .int e)]) rfl ?_
  refine go_s (pc' := 1) (lv' := [(0, .ref 82), (1, .int e)]) (st' := [.int e]) rfl rfl rfl ?_
  refine go_i2l (v := Int32.toInt64 e) rfl rfl ?_
  refine go_lconst (v := 0) rfl (by decide) ?_
  refine go_s (pc' := 4) (lv' := [(0, .ref 82), (1, .int e)]) (st' := [.ref 82, .long 0, .long (Int32.toInt64 e)]) rfl rfl rfl ?_
  refine go_get (v := .int 0) rfl (ab_fo q p1_o_p1_Hm_82 (by decide)) rfl ?_
  refine go_iconst (v := 1) rfl (by decide) ?_
  refine go_b2 (v := (-1)) rfl rfl (fun _ => rfl) (by decide) ?_
  refine go_i2l (v := (-1)) rfl (by decide) ?_
  refine go_cc rfl rfl rfl (lv0 := [(0, .long (Int32.toInt64 e)), (2, .long 0), (4, .long (-1))]) rfl ?_
  refine go_s (pc' := 1) (lv' := [(0, .long (Int32.toInt64 e)), (2, .long 0), (4, .long (-1))]) (st' := [.long (Int32.toInt64 e)]) rfl rfl rfl ?_
  refine go_s (pc' := 2) (lv' := [(0, .long (Int32.toInt64 e)), (2, .long 0), (4, .long (-1))]) (st' := [.long 0, .long (Int32.toInt64 e)]) rfl rfl rfl ?_
  refine go_lc (v := lg_cmp (Int32.toInt64 e) 0) rfl rfl ?_
  refine go_ifl (tgt := 17) rfl (by decide) (fun c => ?_) (fun c => ?_)
  ·
    have c1 : e.toInt < 0 := by first | exact c | (rw [Int32.toInt_toInt64] at c; exact c) | (rw [Int32.toInt_toInt64, Int32.toInt_toInt64] at c; exact c)
    refine go_iconst (v := 0) rfl (by decide) ?_
    refine go_rz rfl rfl (by decide) ?_
    show ab_go 998 ab_M_X10_isEvent 13 [(0, .ref 82), (1, .int e)] [.int 0] g _
    refine go_rz rfl rfl (by decide) ?_
    show ab_go 999 ab_M_X10_would 5 [(0, .ref 82), (1, .int e), (2, .int f)] [.int 0] g _
    refine go_ift (tgt := 21) rfl (by decide) (by decide) ?_
    refine go_iconst (v := (-1)) rfl (by decide) ?_
    refine go_ri rfl rfl ?_
    exact ⟨rfl, x0⟩
  ·
    have c2 : ¬ e.toInt < 0 := by first | exact c | (rw [Int32.toInt_toInt64] at c; exact c) | (rw [Int32.toInt_toInt64, Int32.toInt_toInt64] at c; exact c)
    refine go_s (pc' := 7) (lv' := [(0, .long (Int32.toInt64 e)), (2, .long 0), (4, .long (-1))]) (st' := [.long (Int32.toInt64 e)]) rfl rfl rfl ?_
    refine go_s (pc' := 9) (lv' := [(0, .long (Int32.toInt64 e)), (2, .long 0), (4, .long (-1))]) (st' := [.long (-1), .long (Int32.toInt64 e)]) rfl rfl rfl ?_
    refine go_lc (v := lg_cmp (Int32.toInt64 e) (-1)) rfl rfl ?_
    refine go_ifl (tgt := 17) rfl (by decide) (fun c => ?_) (fun c => ?_)
    ·
      have c3 : (-1) < e.toInt := by first | exact c | (rw [Int32.toInt_toInt64] at c; exact c) | (rw [Int32.toInt_toInt64, Int32.toInt_toInt64] at c; exact c)
      refine go_iconst (v := 0) rfl (by decide) ?_
      refine go_rz rfl rfl (by decide) ?_
      show ab_go 998 ab_M_X10_isEvent 13 [(0, .ref 82), (1, .int e)] [.int 0] g _
      refine go_rz rfl rfl (by decide) ?_
      show ab_go 999 ab_M_X10_would 5 [(0, .ref 82), (1, .int e), (2, .int f)] [.int 0] g _
      refine go_ift (tgt := 21) rfl (by decide) (by decide) ?_
      refine go_iconst (v := (-1)) rfl (by decide) ?_
      refine go_ri rfl rfl ?_
      exact ⟨rfl, x0⟩
    ·
      have c4 : ¬ (-1) < e.toInt := by first | exact c | (rw [Int32.toInt_toInt64] at c; exact c) | (rw [Int32.toInt_toInt64, Int32.toInt_toInt64] at c; exact c)
      exfalso; omega
set_option maxHeartbeats 16000000 in
set_option maxRecDepth 20000 in
theorem m_cure {g : ab_H} (q : ab_sim p1_Sm p1_Hm g) (e : Int32) (f : Int32) : ab_go 999 ab_M_X10_cure 0 [(0, .ref 82), (1, .int e), (2, .int f)] [] g (fun r g' => r = some (.int (-1)) ∧ p1_Y g g') := by
  have hz : g.1 = 120 := q.1.symm
  have x0 : p1_Y g g := ⟨q.1.symm, q.2.1.symm, rfl⟩
  refine go_s (pc' := 1) (lv' := [(0, .ref 82), (1, .int e), (2, .int f)]) (st' := [.ref 82]) rfl rfl rfl ?_
  refine go_s (pc' := 2) (lv' := [(0, .ref 82), (1, .int e), (2, .int f)]) (st' := [.int e, .ref 82]) rfl rfl rfl ?_
  refine go_cc rfl rfl (ab_cal_v (As := [.int e]) (rest := []) rfl rfl rfl (ab_fo q p1_o_p1_Hm_82 (by decide)) rfl rfl rfl rfl) (lv0 := [(0, .ref 82), (1, .int e)]) rfl ?_
  refine go_s (pc' := 1) (lv' := [(0, .ref 82), (1, .int e)]) (st' := [.int e]) rfl rfl rfl ?_
  refine go_i2l (v := Int32.toInt64 e) rfl rfl ?_
  refine go_lconst (v := 0) rfl (by decide) ?_
  refine go_s (pc' := 4) (lv' := [(0, .ref 82), (1, .int e)]) (st' := [.ref 82, .long 0, .long (Int32.toInt64 e)]) rfl rfl rfl ?_
  refine go_get (v := .int 0) rfl (ab_fo q p1_o_p1_Hm_82 (by decide)) rfl ?_
  refine go_iconst (v := 1) rfl (by decide) ?_
  refine go_b2 (v := (-1)) rfl rfl (fun _ => rfl) (by decide) ?_
  refine go_i2l (v := (-1)) rfl (by decide) ?_
  refine go_cc rfl rfl rfl (lv0 := [(0, .long (Int32.toInt64 e)), (2, .long 0), (4, .long (-1))]) rfl ?_
  refine go_s (pc' := 1) (lv' := [(0, .long (Int32.toInt64 e)), (2, .long 0), (4, .long (-1))]) (st' := [.long (Int32.toInt64 e)]) rfl rfl rfl ?_
  refine go_s (pc' := 2) (lv' := [(0, .long (Int32.toInt64 e)), (2, .long 0), (4, .long (-1))]) (st' := [.long 0, .long (Int32.toInt64 e)]) rfl rfl rfl ?_
  refine go_lc (v := lg_cmp (Int32.toInt64 e) 0) rfl rfl ?_
  refine go_ifl (tgt := 17) rfl (by decide) (fun c => ?_) (fun c => ?_)
  ·
    have c1 : e.toInt < 0 := by first | exact c | (rw [Int32.toInt_toInt64] at c; exact c) | (rw [Int32.toInt_toInt64, Int32.toInt_toInt64] at c; exact c)
    refine go_iconst (v := 0) rfl (by decide) ?_
    refine go_rz rfl rfl (by decide) ?_
    show ab_go 998 ab_M_X10_isEvent 13 [(0, .ref 82), (1, .int e)] [.int 0] g _
    refine go_rz rfl rfl (by decide) ?_
    show ab_go 999 ab_M_X10_cure 5 [(0, .ref 82), (1, .int e), (2, .int f)] [.int 0] g _
    refine go_ift (tgt := 21) rfl (by decide) (by decide) ?_
    refine go_iconst (v := (-1)) rfl (by decide) ?_
    refine go_ri rfl rfl ?_
    exact ⟨rfl, x0⟩
  ·
    have c2 : ¬ e.toInt < 0 := by first | exact c | (rw [Int32.toInt_toInt64] at c; exact c) | (rw [Int32.toInt_toInt64, Int32.toInt_toInt64] at c; exact c)
    refine go_s (pc' := 7) (lv' := [(0, .long (Int32.toInt64 e)), (2, .long 0), (4, .long (-1))]) (st' := [.long (Int32.toInt64 e)]) rfl rfl rfl ?_
    refine go_s (pc' := 9) (lv' := [(0, .long (Int32.toInt64 e)), (2, .long 0), (4, .long (-1))]) (st' := [.long (-1), .long (Int32.toInt64 e)]) rfl rfl rfl ?_
    refine go_lc (v := lg_cmp (Int32.toInt64 e) (-1)) rfl rfl ?_
    refine go_ifl (tgt := 17) rfl (by decide) (fun c => ?_) (fun c => ?_)
    ·
      have c3 : (-1) < e.toInt := by first | exact c | (rw [Int32.toInt_toInt64] at c; exact c) | (rw [Int32.toInt_toInt64, Int32.toInt_toInt64] at c; exact c)
      refine go_iconst (v := 0) rfl (by decide) ?_
      refine go_rz rfl rfl (by decide) ?_
      show ab_go 998 ab_M_X10_isEvent 13 [(0, .ref 82), (1, .int e)] [.int 0] g _
      refine go_rz rfl rfl (by decide) ?_
      show ab_go 999 ab_M_X10_cure 5 [(0, .ref 82), (1, .int e), (2, .int f)] [.int 0] g _
      refine go_ift (tgt := 21) rfl (by decide) (by decide) ?_
      refine go_iconst (v := (-1)) rfl (by decide) ?_
      refine go_ri rfl rfl ?_
      exact ⟨rfl, x0⟩
    ·
      have c4 : ¬ (-1) < e.toInt := by first | exact c | (rw [Int32.toInt_toInt64] at c; exact c) | (rw [Int32.toInt_toInt64, Int32.toInt_toInt64] at c; exact c)
      exfalso; omega
set_option maxHeartbeats 16000000 in
set_option maxRecDepth 20000 in
theorem m_cures {g : ab_H} (q : ab_sim p1_Sm p1_Hm g) (w : Int32) : ab_go 999 ab_M_X10_cures 0 [(0, .ref 82), (1, .int w)] [] g (fun r g' => r = some (.int (an_cures w)) ∧ p1_Y g g') := by
  have hz : g.1 = 120 := q.1.symm
  have x0 : p1_Y g g := ⟨q.1.symm, q.2.1.symm, rfl⟩
  refine go_s (pc' := 1) (lv' := [(0, .ref 82), (1, .int w)]) (st' := [.int w]) rfl rfl rfl ?_
  refine go_i2l (v := Int32.toInt64 w) rfl rfl ?_
  refine go_lconst (v := 0) rfl (by decide) ?_
  refine go_lconst (v := 1) rfl (by decide) ?_
  refine go_cc rfl rfl rfl (lv0 := [(0, .long (Int32.toInt64 w)), (2, .long 0), (4, .long 1)]) rfl ?_
  refine go_s (pc' := 1) (lv' := [(0, .long (Int32.toInt64 w)), (2, .long 0), (4, .long 1)]) (st' := [.long (Int32.toInt64 w)]) rfl rfl rfl ?_
  refine go_s (pc' := 2) (lv' := [(0, .long (Int32.toInt64 w)), (2, .long 0), (4, .long 1)]) (st' := [.long 0, .long (Int32.toInt64 w)]) rfl rfl rfl ?_
  refine go_lc (v := lg_cmp (Int32.toInt64 w) 0) rfl rfl ?_
  refine go_ifl (tgt := 17) rfl (by decide) (fun c => ?_) (fun c => ?_)
  ·
    have c1 : w.toInt < 0 := by first | exact c | (rw [Int32.toInt_toInt64] at c; exact c) | (rw [Int32.toInt_toInt64, Int32.toInt_toInt64] at c; exact c)
    refine go_iconst (v := 0) rfl (by decide) ?_
    refine go_rz rfl rfl (by decide) ?_
    show ab_go 999 ab_M_X10_cures 7 [(0, .ref 82), (1, .int w)] [.int 0] g _
    refine go_iff rfl (by decide) ?_
    refine go_iconst (v := (-1)) rfl (by decide) ?_
    refine go_ri rfl rfl ?_
    exact ⟨(by unfold an_cures; first | (rw [if_pos (by omega)]; done) | (rw [if_neg (by omega)]; done) | (rw [if_neg (by omega), if_pos (by omega)]; done) | (rw [if_neg (by omega), if_neg (by omega)]; done) | (rw [if_pos (by omega), if_pos (by omega)]; done) | (rw [if_pos (by omega), if_neg (by omega)]; done) | decide | (simp; omega)), x0⟩
  ·
    have c2 : ¬ w.toInt < 0 := by first | exact c | (rw [Int32.toInt_toInt64] at c; exact c) | (rw [Int32.toInt_toInt64, Int32.toInt_toInt64] at c; exact c)
    refine go_s (pc' := 7) (lv' := [(0, .long (Int32.toInt64 w)), (2, .long 0), (4, .long 1)]) (st' := [.long (Int32.toInt64 w)]) rfl rfl rfl ?_
    refine go_s (pc' := 9) (lv' := [(0, .long (Int32.toInt64 w)), (2, .long 0), (4, .long 1)]) (st' := [.long 1, .long (Int32.toInt64 w)]) rfl rfl rfl ?_
    refine go_lc (v := lg_cmp (Int32.toInt64 w) 1) rfl rfl ?_
    refine go_ifl (tgt := 17) rfl (by decide) (fun c => ?_) (fun c => ?_)
    ·
      have c3 : 1 < w.toInt := by first | exact c | (rw [Int32.toInt_toInt64] at c; exact c) | (rw [Int32.toInt_toInt64, Int32.toInt_toInt64] at c; exact c)
      refine go_iconst (v := 0) rfl (by decide) ?_
      refine go_rz rfl rfl (by decide) ?_
      show ab_go 999 ab_M_X10_cures 7 [(0, .ref 82), (1, .int w)] [.int 0] g _
      refine go_iff rfl (by decide) ?_
      refine go_iconst (v := (-1)) rfl (by decide) ?_
      refine go_ri rfl rfl ?_
      exact ⟨(by unfold an_cures; first | (rw [if_pos (by omega)]; done) | (rw [if_neg (by omega)]; done) | (rw [if_neg (by omega), if_pos (by omega)]; done) | (rw [if_neg (by omega), if_neg (by omega)]; done) | (rw [if_pos (by omega), if_pos (by omega)]; done) | (rw [if_pos (by omega), if_neg (by omega)]; done) | decide | (simp; omega)), x0⟩
    ·
      have c4 : ¬ 1 < w.toInt := by first | exact c | (rw [Int32.toInt_toInt64] at c; exact c) | (rw [Int32.toInt_toInt64, Int32.toInt_toInt64] at c; exact c)
      refine go_iconst (v := 1) rfl (by decide) ?_
      refine go_goto (tgt := 18) rfl (by decide) ?_
      refine go_rz rfl rfl (by decide) ?_
      show ab_go 999 ab_M_X10_cures 7 [(0, .ref 82), (1, .int w)] [.int 1] g _
      refine go_ift (tgt := 12) rfl (by decide) (by decide) ?_
      refine go_s (pc' := 13) (lv' := [(0, .ref 82), (1, .int w)]) (st' := [.ref 82]) rfl rfl rfl ?_
      refine go_c rfl rfl (ab_cal_v (As := []) (rest := []) rfl rfl rfl (ab_fo q p1_o_p1_Hm_82 (by decide)) rfl rfl rfl rfl) (lv0 := [(0, .ref 82)]) rfl (go_sim p1_R26 q) (fun r0 g5 hr => ?_)
      obtain ⟨rfl, z8, w0, q6, f0⟩ := hr
      have x7 := x0.next f0 z8 w0
      show ab_go 999 ab_M_X10_cures 16 [(0, .ref 82), (1, .int w)] [.int 1] g5 _
      refine go_ift (tgt := 22) rfl (by decide) (by decide) ?_
      refine go_s (pc' := 23) (lv' := [(0, .ref 82), (1, .int w)]) (st' := [.ref 82]) rfl rfl rfl ?_
      refine go_cc rfl rfl (ab_cal_v (As := []) (rest := []) rfl rfl rfl (ab_fo q6 p1_o_p1_C26_82 (by decide)) rfl rfl rfl rfl) (lv0 := [(0, .ref 82)]) rfl ?_
      refine go_s (pc' := 1) (lv' := [(0, .ref 82)]) (st' := [.ref 82]) rfl rfl rfl ?_
      refine go_get (v := .int 0) rfl (ab_fo q6 p1_o_p1_C26_82 (by decide)) rfl ?_
      refine go_bipush (v := 6) rfl (by decide) ?_
      refine go_icf rfl (by decide) ?_
      refine go_s (pc' := 10) (lv' := [(0, .ref 82)]) (st' := [.ref 82]) rfl rfl rfl ?_
      refine go_get (v := .int 0) rfl (ab_fo q6 p1_o_p1_C26_82 (by decide)) rfl ?_
      refine go_iconst (v := 2) rfl (by decide) ?_
      refine go_b2 (v := 2) rfl rfl (fun _ => rfl) (by decide) ?_
      refine go_bipush (v := 16) rfl (by decide) ?_
      refine go_icf rfl (by decide) ?_
      refine go_s (pc' := 21) (lv' := [(0, .ref 82)]) (st' := [.ref 82]) rfl rfl rfl ?_
      refine go_get (v := .int 0) rfl (ab_fo q6 p1_o_p1_C26_82 (by decide)) rfl ?_
      refine go_iconst (v := 2) rfl (by decide) ?_
      refine go_b2 (v := 2) rfl rfl (fun _ => rfl) (by decide) ?_
      refine go_bipush (v := 20) rfl (by decide) ?_
      refine go_ict (tgt := 35) rfl (by decide) (by decide) ?_
      refine go_iconst (v := 0) rfl (by decide) ?_
      refine go_rz rfl rfl (by decide) ?_
      show ab_go 999 ab_M_X10_cures 26 [(0, .ref 82), (1, .int w)] [.int 0] g5 _
      refine go_ift (tgt := 32) rfl (by decide) (by decide) ?_
      refine go_bipush (v := (-4)) rfl (by decide) ?_
      refine go_s (pc' := 35) (lv' := [(2, .int (-4)), (0, .ref 82), (1, .int w)]) (st' := []) rfl rfl rfl ?_
      refine go_iconst (v := 0) rfl (by decide) ?_
      refine go_s (pc' := 37) (lv' := [(3, .int 0), (2, .int (-4)), (0, .ref 82), (1, .int w)]) (st' := []) rfl rfl rfl ?_
      refine go_iconst (v := 0) rfl (by decide) ?_
      refine go_s (pc' := 40) (lv' := [(4, .int 0), (3, .int 0), (2, .int (-4)), (0, .ref 82), (1, .int w)]) (st' := []) rfl rfl rfl ?_
      refine go_s (pc' := 42) (lv' := [(4, .int 0), (3, .int 0), (2, .int (-4)), (0, .ref 82), (1, .int w)]) (st' := [.int 0]) rfl rfl rfl ?_
      refine go_s (pc' := 43) (lv' := [(4, .int 0), (3, .int 0), (2, .int (-4)), (0, .ref 82), (1, .int w)]) (st' := [.ref 82, .int 0]) rfl rfl rfl ?_
      refine go_get (v := .int 0) rfl (ab_fo q6 p1_o_p1_C26_82 (by decide)) rfl ?_
      refine go_ict (tgt := 111) rfl (by decide) (by decide) ?_
      refine go_s (pc' := 112) (lv' := [(4, .int 0), (3, .int 0), (2, .int (-4)), (0, .ref 82), (1, .int w)]) (st' := [.int w]) rfl rfl rfl ?_
      refine go_if (tgt := 119) rfl (by decide) (fun c => ?_) (fun c => ?_)
      ·
        have c9 : ¬ w.toInt = 0 := c
        refine go_s (pc' := 120) (lv' := [(4, .int 0), (3, .int 0), (2, .int (-4)), (0, .ref 82), (1, .int w)]) (st' := [.int 0]) rfl rfl rfl ?_
        refine go_ri rfl rfl ?_
        exact ⟨(by unfold an_cures; first | (rw [if_pos (by omega)]; done) | (rw [if_neg (by omega)]; done) | (rw [if_neg (by omega), if_pos (by omega)]; done) | (rw [if_neg (by omega), if_neg (by omega)]; done) | (rw [if_pos (by omega), if_pos (by omega)]; done) | (rw [if_pos (by omega), if_neg (by omega)]; done) | decide | (simp; omega)), x7⟩
      ·
        have c10 : ¬ (¬ w.toInt = 0) := c
        refine go_s (pc' := 116) (lv' := [(4, .int 0), (3, .int 0), (2, .int (-4)), (0, .ref 82), (1, .int w)]) (st' := [.int (-4)]) rfl rfl rfl ?_
        refine go_goto (tgt := 120) rfl (by decide) ?_
        refine go_ri rfl rfl ?_
        exact ⟨(by unfold an_cures; first | (rw [if_pos (by omega)]; done) | (rw [if_neg (by omega)]; done) | (rw [if_neg (by omega), if_pos (by omega)]; done) | (rw [if_neg (by omega), if_neg (by omega)]; done) | (rw [if_pos (by omega), if_pos (by omega)]; done) | (rw [if_pos (by omega), if_neg (by omega)]; done) | decide | (simp; omega)), x7⟩
set_option maxHeartbeats 16000000 in
set_option maxRecDepth 20000 in
theorem m_delay {g : ab_H} (q : ab_sim p1_Sm p1_Hm g) (e : Int32) (v : Int32) : ab_go 999 ab_M_X10_delay 0 [(0, .ref 82), (1, .int e), (2, .int v)] [] g (fun r g' => r = some (.int (-1)) ∧ p1_Y g g') := by
  have hz : g.1 = 120 := q.1.symm
  have x0 : p1_Y g g := ⟨q.1.symm, q.2.1.symm, rfl⟩
  refine go_s (pc' := 1) (lv' := [(0, .ref 82), (1, .int e), (2, .int v)]) (st' := [.ref 82]) rfl rfl rfl ?_
  refine go_s (pc' := 2) (lv' := [(0, .ref 82), (1, .int e), (2, .int v)]) (st' := [.int e, .ref 82]) rfl rfl rfl ?_
  refine go_cc rfl rfl (ab_cal_v (As := [.int e]) (rest := []) rfl rfl rfl (ab_fo q p1_o_p1_Hm_82 (by decide)) rfl rfl rfl rfl) (lv0 := [(0, .ref 82), (1, .int e)]) rfl ?_
  refine go_s (pc' := 1) (lv' := [(0, .ref 82), (1, .int e)]) (st' := [.int e]) rfl rfl rfl ?_
  refine go_i2l (v := Int32.toInt64 e) rfl rfl ?_
  refine go_lconst (v := 0) rfl (by decide) ?_
  refine go_s (pc' := 4) (lv' := [(0, .ref 82), (1, .int e)]) (st' := [.ref 82, .long 0, .long (Int32.toInt64 e)]) rfl rfl rfl ?_
  refine go_get (v := .int 0) rfl (ab_fo q p1_o_p1_Hm_82 (by decide)) rfl ?_
  refine go_iconst (v := 1) rfl (by decide) ?_
  refine go_b2 (v := (-1)) rfl rfl (fun _ => rfl) (by decide) ?_
  refine go_i2l (v := (-1)) rfl (by decide) ?_
  refine go_cc rfl rfl rfl (lv0 := [(0, .long (Int32.toInt64 e)), (2, .long 0), (4, .long (-1))]) rfl ?_
  refine go_s (pc' := 1) (lv' := [(0, .long (Int32.toInt64 e)), (2, .long 0), (4, .long (-1))]) (st' := [.long (Int32.toInt64 e)]) rfl rfl rfl ?_
  refine go_s (pc' := 2) (lv' := [(0, .long (Int32.toInt64 e)), (2, .long 0), (4, .long (-1))]) (st' := [.long 0, .long (Int32.toInt64 e)]) rfl rfl rfl ?_
  refine go_lc (v := lg_cmp (Int32.toInt64 e) 0) rfl rfl ?_
  refine go_ifl (tgt := 17) rfl (by decide) (fun c => ?_) (fun c => ?_)
  ·
    have c1 : e.toInt < 0 := by first | exact c | (rw [Int32.toInt_toInt64] at c; exact c) | (rw [Int32.toInt_toInt64, Int32.toInt_toInt64] at c; exact c)
    refine go_iconst (v := 0) rfl (by decide) ?_
    refine go_rz rfl rfl (by decide) ?_
    show ab_go 998 ab_M_X10_isEvent 13 [(0, .ref 82), (1, .int e)] [.int 0] g _
    refine go_rz rfl rfl (by decide) ?_
    show ab_go 999 ab_M_X10_delay 5 [(0, .ref 82), (1, .int e), (2, .int v)] [.int 0] g _
    refine go_ift (tgt := 20) rfl (by decide) (by decide) ?_
    refine go_iconst (v := (-1)) rfl (by decide) ?_
    refine go_ri rfl rfl ?_
    exact ⟨rfl, x0⟩
  ·
    have c2 : ¬ e.toInt < 0 := by first | exact c | (rw [Int32.toInt_toInt64] at c; exact c) | (rw [Int32.toInt_toInt64, Int32.toInt_toInt64] at c; exact c)
    refine go_s (pc' := 7) (lv' := [(0, .long (Int32.toInt64 e)), (2, .long 0), (4, .long (-1))]) (st' := [.long (Int32.toInt64 e)]) rfl rfl rfl ?_
    refine go_s (pc' := 9) (lv' := [(0, .long (Int32.toInt64 e)), (2, .long 0), (4, .long (-1))]) (st' := [.long (-1), .long (Int32.toInt64 e)]) rfl rfl rfl ?_
    refine go_lc (v := lg_cmp (Int32.toInt64 e) (-1)) rfl rfl ?_
    refine go_ifl (tgt := 17) rfl (by decide) (fun c => ?_) (fun c => ?_)
    ·
      have c3 : (-1) < e.toInt := by first | exact c | (rw [Int32.toInt_toInt64] at c; exact c) | (rw [Int32.toInt_toInt64, Int32.toInt_toInt64] at c; exact c)
      refine go_iconst (v := 0) rfl (by decide) ?_
      refine go_rz rfl rfl (by decide) ?_
      show ab_go 998 ab_M_X10_isEvent 13 [(0, .ref 82), (1, .int e)] [.int 0] g _
      refine go_rz rfl rfl (by decide) ?_
      show ab_go 999 ab_M_X10_delay 5 [(0, .ref 82), (1, .int e), (2, .int v)] [.int 0] g _
      refine go_ift (tgt := 20) rfl (by decide) (by decide) ?_
      refine go_iconst (v := (-1)) rfl (by decide) ?_
      refine go_ri rfl rfl ?_
      exact ⟨rfl, x0⟩
    ·
      have c4 : ¬ (-1) < e.toInt := by first | exact c | (rw [Int32.toInt_toInt64] at c; exact c) | (rw [Int32.toInt_toInt64, Int32.toInt_toInt64] at c; exact c)
      exfalso; omega
set_option maxHeartbeats 16000000 in
set_option maxRecDepth 20000 in
theorem m_beat {g : ab_H} (q : ab_sim p1_Sm p1_Hm g) (w : Int32) : ab_go 999 ab_M_X10_beat 0 [(0, .ref 82), (1, .int w)] [] g (fun r g' => r = some (.int (an_beat w)) ∧ p1_Y g g') := by
  have hz : g.1 = 120 := q.1.symm
  have x0 : p1_Y g g := ⟨q.1.symm, q.2.1.symm, rfl⟩
  refine go_s (pc' := 1) (lv' := [(0, .ref 82), (1, .int w)]) (st' := [.int w]) rfl rfl rfl ?_
  refine go_i2l (v := Int32.toInt64 w) rfl rfl ?_
  refine go_lconst (v := 0) rfl (by decide) ?_
  refine go_ldc2 (v := 2) rfl (by decide) ?_
  refine go_cc rfl rfl rfl (lv0 := [(0, .long (Int32.toInt64 w)), (2, .long 0), (4, .long 2)]) rfl ?_
  refine go_s (pc' := 1) (lv' := [(0, .long (Int32.toInt64 w)), (2, .long 0), (4, .long 2)]) (st' := [.long (Int32.toInt64 w)]) rfl rfl rfl ?_
  refine go_s (pc' := 2) (lv' := [(0, .long (Int32.toInt64 w)), (2, .long 0), (4, .long 2)]) (st' := [.long 0, .long (Int32.toInt64 w)]) rfl rfl rfl ?_
  refine go_lc (v := lg_cmp (Int32.toInt64 w) 0) rfl rfl ?_
  refine go_ifl (tgt := 17) rfl (by decide) (fun c => ?_) (fun c => ?_)
  ·
    have c1 : w.toInt < 0 := by first | exact c | (rw [Int32.toInt_toInt64] at c; exact c) | (rw [Int32.toInt_toInt64, Int32.toInt_toInt64] at c; exact c)
    refine go_iconst (v := 0) rfl (by decide) ?_
    refine go_rz rfl rfl (by decide) ?_
    show ab_go 999 ab_M_X10_beat 9 [(0, .ref 82), (1, .int w)] [.int 0] g _
    refine go_iff rfl (by decide) ?_
    refine go_iconst (v := (-1)) rfl (by decide) ?_
    refine go_ri rfl rfl ?_
    exact ⟨(by unfold an_beat; first | (rw [if_pos (by omega)]; done) | (rw [if_neg (by omega)]; done) | (rw [if_neg (by omega), if_pos (by omega)]; done) | (rw [if_neg (by omega), if_neg (by omega)]; done) | (rw [if_pos (by omega), if_pos (by omega)]; done) | (rw [if_pos (by omega), if_neg (by omega)]; done) | decide | (simp; omega)), x0⟩
  ·
    have c2 : ¬ w.toInt < 0 := by first | exact c | (rw [Int32.toInt_toInt64] at c; exact c) | (rw [Int32.toInt_toInt64, Int32.toInt_toInt64] at c; exact c)
    refine go_s (pc' := 7) (lv' := [(0, .long (Int32.toInt64 w)), (2, .long 0), (4, .long 2)]) (st' := [.long (Int32.toInt64 w)]) rfl rfl rfl ?_
    refine go_s (pc' := 9) (lv' := [(0, .long (Int32.toInt64 w)), (2, .long 0), (4, .long 2)]) (st' := [.long 2, .long (Int32.toInt64 w)]) rfl rfl rfl ?_
    refine go_lc (v := lg_cmp (Int32.toInt64 w) 2) rfl rfl ?_
    refine go_ifl (tgt := 17) rfl (by decide) (fun c => ?_) (fun c => ?_)
    ·
      have c3 : 2 < w.toInt := by first | exact c | (rw [Int32.toInt_toInt64] at c; exact c) | (rw [Int32.toInt_toInt64, Int32.toInt_toInt64] at c; exact c)
      refine go_iconst (v := 0) rfl (by decide) ?_
      refine go_rz rfl rfl (by decide) ?_
      show ab_go 999 ab_M_X10_beat 9 [(0, .ref 82), (1, .int w)] [.int 0] g _
      refine go_iff rfl (by decide) ?_
      refine go_iconst (v := (-1)) rfl (by decide) ?_
      refine go_ri rfl rfl ?_
      exact ⟨(by unfold an_beat; first | (rw [if_pos (by omega)]; done) | (rw [if_neg (by omega)]; done) | (rw [if_neg (by omega), if_pos (by omega)]; done) | (rw [if_neg (by omega), if_neg (by omega)]; done) | (rw [if_pos (by omega), if_pos (by omega)]; done) | (rw [if_pos (by omega), if_neg (by omega)]; done) | decide | (simp; omega)), x0⟩
    ·
      have c4 : ¬ 2 < w.toInt := by first | exact c | (rw [Int32.toInt_toInt64] at c; exact c) | (rw [Int32.toInt_toInt64, Int32.toInt_toInt64] at c; exact c)
      refine go_iconst (v := 1) rfl (by decide) ?_
      refine go_goto (tgt := 18) rfl (by decide) ?_
      refine go_rz rfl rfl (by decide) ?_
      show ab_go 999 ab_M_X10_beat 9 [(0, .ref 82), (1, .int w)] [.int 1] g _
      refine go_ift (tgt := 14) rfl (by decide) (by decide) ?_
      refine go_s (pc' := 15) (lv' := [(0, .ref 82), (1, .int w)]) (st' := [.ref 82]) rfl rfl rfl ?_
      refine go_c rfl rfl (ab_cal_v (As := []) (rest := []) rfl rfl rfl (ab_fo q p1_o_p1_Hm_82 (by decide)) rfl rfl rfl rfl) (lv0 := [(0, .ref 82)]) rfl (go_sim p1_R34 q) (fun r0 g5 hr => ?_)
      obtain ⟨rfl, z8, w0, q6, f0⟩ := hr
      have x7 := x0.next f0 z8 w0
      show ab_go 999 ab_M_X10_beat 18 [(0, .ref 82), (1, .int w)] [.int 1] g5 _
      refine go_ift (tgt := 24) rfl (by decide) (by decide) ?_
      refine go_s (pc' := 25) (lv' := [(0, .ref 82), (1, .int w)]) (st' := [.ref 82]) rfl rfl rfl ?_
      refine go_iconst (v := 0) rfl (by decide) ?_
      refine go_iconst (v := 1) rfl (by decide) ?_
      refine go_c rfl rfl (ab_cal_v (As := [.int 0, .int 1]) (rest := []) rfl rfl rfl (ab_fo q6 p1_o_p1_C34_82 (by decide)) rfl rfl rfl rfl) (lv0 := [(0, .ref 82), (1, .int 0), (2, .int 1)]) rfl (go_sim p1_R35 q6) (fun r0 g9 hr => ?_)
      obtain ⟨rfl, z12, w0, q10, f0⟩ := hr
      have x11 := x7.next f0 z12 w0
      show ab_go 999 ab_M_X10_beat 30 [(0, .ref 82), (1, .int w)] [.int 0] g9 _
      refine go_iff rfl (by decide) ?_
      refine go_bipush (v := (-4)) rfl (by decide) ?_
      refine go_ri rfl rfl ?_
      exact ⟨(by unfold an_beat; first | (rw [if_pos (by omega)]; done) | (rw [if_neg (by omega)]; done) | (rw [if_neg (by omega), if_pos (by omega)]; done) | (rw [if_neg (by omega), if_neg (by omega)]; done) | (rw [if_pos (by omega), if_pos (by omega)]; done) | (rw [if_pos (by omega), if_neg (by omega)]; done) | decide | (simp; omega)), x11⟩
set_option maxHeartbeats 16000000 in
set_option maxRecDepth 20000 in
theorem m_time {g : ab_H} (q : ab_sim p1_Sm p1_Hm g) (e : Int32) (k : Int32) : ab_go 999 ab_M_X10_time 0 [(0, .ref 82), (1, .int e), (2, .int k)] [] g (fun r g' => r = some (.int (-1)) ∧ p1_Y g g') := by
  have hz : g.1 = 120 := q.1.symm
  have x0 : p1_Y g g := ⟨q.1.symm, q.2.1.symm, rfl⟩
  refine go_s (pc' := 1) (lv' := [(0, .ref 82), (1, .int e), (2, .int k)]) (st' := [.ref 82]) rfl rfl rfl ?_
  refine go_s (pc' := 2) (lv' := [(0, .ref 82), (1, .int e), (2, .int k)]) (st' := [.int e, .ref 82]) rfl rfl rfl ?_
  refine go_cc rfl rfl (ab_cal_v (As := [.int e]) (rest := []) rfl rfl rfl (ab_fo q p1_o_p1_Hm_82 (by decide)) rfl rfl rfl rfl) (lv0 := [(0, .ref 82), (1, .int e)]) rfl ?_
  refine go_s (pc' := 1) (lv' := [(0, .ref 82), (1, .int e)]) (st' := [.int e]) rfl rfl rfl ?_
  refine go_i2l (v := Int32.toInt64 e) rfl rfl ?_
  refine go_lconst (v := 0) rfl (by decide) ?_
  refine go_s (pc' := 4) (lv' := [(0, .ref 82), (1, .int e)]) (st' := [.ref 82, .long 0, .long (Int32.toInt64 e)]) rfl rfl rfl ?_
  refine go_get (v := .int 0) rfl (ab_fo q p1_o_p1_Hm_82 (by decide)) rfl ?_
  refine go_iconst (v := 1) rfl (by decide) ?_
  refine go_b2 (v := (-1)) rfl rfl (fun _ => rfl) (by decide) ?_
  refine go_i2l (v := (-1)) rfl (by decide) ?_
  refine go_cc rfl rfl rfl (lv0 := [(0, .long (Int32.toInt64 e)), (2, .long 0), (4, .long (-1))]) rfl ?_
  refine go_s (pc' := 1) (lv' := [(0, .long (Int32.toInt64 e)), (2, .long 0), (4, .long (-1))]) (st' := [.long (Int32.toInt64 e)]) rfl rfl rfl ?_
  refine go_s (pc' := 2) (lv' := [(0, .long (Int32.toInt64 e)), (2, .long 0), (4, .long (-1))]) (st' := [.long 0, .long (Int32.toInt64 e)]) rfl rfl rfl ?_
  refine go_lc (v := lg_cmp (Int32.toInt64 e) 0) rfl rfl ?_
  refine go_ifl (tgt := 17) rfl (by decide) (fun c => ?_) (fun c => ?_)
  ·
    have c1 : e.toInt < 0 := by first | exact c | (rw [Int32.toInt_toInt64] at c; exact c) | (rw [Int32.toInt_toInt64, Int32.toInt_toInt64] at c; exact c)
    refine go_iconst (v := 0) rfl (by decide) ?_
    refine go_rz rfl rfl (by decide) ?_
    show ab_go 998 ab_M_X10_isEvent 13 [(0, .ref 82), (1, .int e)] [.int 0] g _
    refine go_rz rfl rfl (by decide) ?_
    show ab_go 999 ab_M_X10_time 5 [(0, .ref 82), (1, .int e), (2, .int k)] [.int 0] g _
    refine go_ift (tgt := 20) rfl (by decide) (by decide) ?_
    refine go_iconst (v := (-1)) rfl (by decide) ?_
    refine go_ri rfl rfl ?_
    exact ⟨rfl, x0⟩
  ·
    have c2 : ¬ e.toInt < 0 := by first | exact c | (rw [Int32.toInt_toInt64] at c; exact c) | (rw [Int32.toInt_toInt64, Int32.toInt_toInt64] at c; exact c)
    refine go_s (pc' := 7) (lv' := [(0, .long (Int32.toInt64 e)), (2, .long 0), (4, .long (-1))]) (st' := [.long (Int32.toInt64 e)]) rfl rfl rfl ?_
    refine go_s (pc' := 9) (lv' := [(0, .long (Int32.toInt64 e)), (2, .long 0), (4, .long (-1))]) (st' := [.long (-1), .long (Int32.toInt64 e)]) rfl rfl rfl ?_
    refine go_lc (v := lg_cmp (Int32.toInt64 e) (-1)) rfl rfl ?_
    refine go_ifl (tgt := 17) rfl (by decide) (fun c => ?_) (fun c => ?_)
    ·
      have c3 : (-1) < e.toInt := by first | exact c | (rw [Int32.toInt_toInt64] at c; exact c) | (rw [Int32.toInt_toInt64, Int32.toInt_toInt64] at c; exact c)
      refine go_iconst (v := 0) rfl (by decide) ?_
      refine go_rz rfl rfl (by decide) ?_
      show ab_go 998 ab_M_X10_isEvent 13 [(0, .ref 82), (1, .int e)] [.int 0] g _
      refine go_rz rfl rfl (by decide) ?_
      show ab_go 999 ab_M_X10_time 5 [(0, .ref 82), (1, .int e), (2, .int k)] [.int 0] g _
      refine go_ift (tgt := 20) rfl (by decide) (by decide) ?_
      refine go_iconst (v := (-1)) rfl (by decide) ?_
      refine go_ri rfl rfl ?_
      exact ⟨rfl, x0⟩
    ·
      have c4 : ¬ (-1) < e.toInt := by first | exact c | (rw [Int32.toInt_toInt64] at c; exact c) | (rw [Int32.toInt_toInt64, Int32.toInt_toInt64] at c; exact c)
      exfalso; omega
set_option maxHeartbeats 16000000 in
set_option maxRecDepth 20000 in
theorem m_come {g : ab_H} (q : ab_sim p1_Sm p1_Hm g) (e : Int32) : ab_go 999 ab_M_X10_come 0 [(0, .ref 82), (1, .int e)] [] g (fun r g' => r = some (.int (-1)) ∧ p1_Y g g') := by
  have hz : g.1 = 120 := q.1.symm
  have x0 : p1_Y g g := ⟨q.1.symm, q.2.1.symm, rfl⟩
  refine go_s (pc' := 1) (lv' := [(0, .ref 82), (1, .int e)]) (st' := [.ref 82]) rfl rfl rfl ?_
  refine go_s (pc' := 2) (lv' := [(0, .ref 82), (1, .int e)]) (st' := [.int e, .ref 82]) rfl rfl rfl ?_
  refine go_cc rfl rfl (ab_cal_v (As := [.int e]) (rest := []) rfl rfl rfl (ab_fo q p1_o_p1_Hm_82 (by decide)) rfl rfl rfl rfl) (lv0 := [(0, .ref 82), (1, .int e)]) rfl ?_
  refine go_s (pc' := 1) (lv' := [(0, .ref 82), (1, .int e)]) (st' := [.int e]) rfl rfl rfl ?_
  refine go_i2l (v := Int32.toInt64 e) rfl rfl ?_
  refine go_lconst (v := 0) rfl (by decide) ?_
  refine go_s (pc' := 4) (lv' := [(0, .ref 82), (1, .int e)]) (st' := [.ref 82, .long 0, .long (Int32.toInt64 e)]) rfl rfl rfl ?_
  refine go_get (v := .int 0) rfl (ab_fo q p1_o_p1_Hm_82 (by decide)) rfl ?_
  refine go_iconst (v := 1) rfl (by decide) ?_
  refine go_b2 (v := (-1)) rfl rfl (fun _ => rfl) (by decide) ?_
  refine go_i2l (v := (-1)) rfl (by decide) ?_
  refine go_cc rfl rfl rfl (lv0 := [(0, .long (Int32.toInt64 e)), (2, .long 0), (4, .long (-1))]) rfl ?_
  refine go_s (pc' := 1) (lv' := [(0, .long (Int32.toInt64 e)), (2, .long 0), (4, .long (-1))]) (st' := [.long (Int32.toInt64 e)]) rfl rfl rfl ?_
  refine go_s (pc' := 2) (lv' := [(0, .long (Int32.toInt64 e)), (2, .long 0), (4, .long (-1))]) (st' := [.long 0, .long (Int32.toInt64 e)]) rfl rfl rfl ?_
  refine go_lc (v := lg_cmp (Int32.toInt64 e) 0) rfl rfl ?_
  refine go_ifl (tgt := 17) rfl (by decide) (fun c => ?_) (fun c => ?_)
  ·
    have c1 : e.toInt < 0 := by first | exact c | (rw [Int32.toInt_toInt64] at c; exact c) | (rw [Int32.toInt_toInt64, Int32.toInt_toInt64] at c; exact c)
    refine go_iconst (v := 0) rfl (by decide) ?_
    refine go_rz rfl rfl (by decide) ?_
    show ab_go 998 ab_M_X10_isEvent 13 [(0, .ref 82), (1, .int e)] [.int 0] g _
    refine go_rz rfl rfl (by decide) ?_
    show ab_go 999 ab_M_X10_come 5 [(0, .ref 82), (1, .int e)] [.int 0] g _
    refine go_iff rfl (by decide) ?_
    refine go_iconst (v := (-1)) rfl (by decide) ?_
    refine go_ri rfl rfl ?_
    exact ⟨rfl, x0⟩
  ·
    have c2 : ¬ e.toInt < 0 := by first | exact c | (rw [Int32.toInt_toInt64] at c; exact c) | (rw [Int32.toInt_toInt64, Int32.toInt_toInt64] at c; exact c)
    refine go_s (pc' := 7) (lv' := [(0, .long (Int32.toInt64 e)), (2, .long 0), (4, .long (-1))]) (st' := [.long (Int32.toInt64 e)]) rfl rfl rfl ?_
    refine go_s (pc' := 9) (lv' := [(0, .long (Int32.toInt64 e)), (2, .long 0), (4, .long (-1))]) (st' := [.long (-1), .long (Int32.toInt64 e)]) rfl rfl rfl ?_
    refine go_lc (v := lg_cmp (Int32.toInt64 e) (-1)) rfl rfl ?_
    refine go_ifl (tgt := 17) rfl (by decide) (fun c => ?_) (fun c => ?_)
    ·
      have c3 : (-1) < e.toInt := by first | exact c | (rw [Int32.toInt_toInt64] at c; exact c) | (rw [Int32.toInt_toInt64, Int32.toInt_toInt64] at c; exact c)
      refine go_iconst (v := 0) rfl (by decide) ?_
      refine go_rz rfl rfl (by decide) ?_
      show ab_go 998 ab_M_X10_isEvent 13 [(0, .ref 82), (1, .int e)] [.int 0] g _
      refine go_rz rfl rfl (by decide) ?_
      show ab_go 999 ab_M_X10_come 5 [(0, .ref 82), (1, .int e)] [.int 0] g _
      refine go_iff rfl (by decide) ?_
      refine go_iconst (v := (-1)) rfl (by decide) ?_
      refine go_ri rfl rfl ?_
      exact ⟨rfl, x0⟩
    ·
      have c4 : ¬ (-1) < e.toInt := by first | exact c | (rw [Int32.toInt_toInt64] at c; exact c) | (rw [Int32.toInt_toInt64, Int32.toInt_toInt64] at c; exact c)
      exfalso; omega
set_option maxHeartbeats 16000000 in
set_option maxRecDepth 20000 in
theorem m_undo {g : ab_H} (q : ab_sim p1_Sm p1_Hm g) : ab_go 999 ab_M_X10_undo 0 [(0, .ref 82)] [] g (fun r g' => r = some (.int (-4)) ∧ p1_Y g g') := by
  have x0 : p1_Y g g := ⟨q.1.symm, q.2.1.symm, rfl⟩
  obtain ⟨n, r, hF, hx, hr, z, w0, q1, f0⟩ := go_sim p1_R36 q
  exact ⟨n, r, hF, hx, hr, x0.next f0 z w0⟩
set_option maxHeartbeats 16000000 in
set_option maxRecDepth 20000 in
theorem m_run {g : ab_H} (q : ab_sim p1_Sm p1_Hm g) (w : Int32) : ab_go 999 ab_M_X10_run 0 [(0, .ref 82), (1, .int w)] [] g (fun r g' => r = some (.int (an_run w)) ∧ p1_Y g g') := by
  have hz : g.1 = 120 := q.1.symm
  have x0 : p1_Y g g := ⟨q.1.symm, q.2.1.symm, rfl⟩
  refine go_iconst (v := 0) rfl (by decide) ?_
  refine go_s (pc' := 2) (lv' := [(2, .int 0), (0, .ref 82), (1, .int w)]) (st' := []) rfl rfl rfl ?_
  refine go_iconst (v := 0) rfl (by decide) ?_
  refine go_s (pc' := 4) (lv' := [(3, .int 0), (2, .int 0), (0, .ref 82), (1, .int w)]) (st' := []) rfl rfl rfl ?_
  refine go_s (pc' := 5) (lv' := [(3, .int 0), (2, .int 0), (0, .ref 82), (1, .int w)]) (st' := [.int 0]) rfl rfl rfl ?_
  refine go_s (pc' := 6) (lv' := [(3, .int 0), (2, .int 0), (0, .ref 82), (1, .int w)]) (st' := [.ref 82, .int 0]) rfl rfl rfl ?_
  refine go_get (v := .int 0) rfl (ab_fo q p1_o_p1_Hm_82 (by decide)) rfl ?_
  refine go_ict (tgt := 45) rfl (by decide) (by decide) ?_
  refine go_s (pc' := 46) (lv' := [(3, .int 0), (2, .int 0), (0, .ref 82), (1, .int w)]) (st' := [.int w]) rfl rfl rfl ?_
  refine go_if (tgt := 61) rfl (by decide) (fun c => ?_) (fun c => ?_)
  ·
    have c1 : ¬ w.toInt = 0 := c
    refine go_s (pc' := 62) (lv' := [(3, .int 0), (2, .int 0), (0, .ref 82), (1, .int w)]) (st' := [.int w]) rfl rfl rfl ?_
    refine go_iconst (v := 1) rfl (by decide) ?_
    refine go_ic (tgt := 70) rfl (by decide) (fun c => ?_) (fun c => ?_)
    ·
      have c2 : ¬ w.toInt = 1 := c
      refine go_s (pc' := 71) (lv' := [(3, .int 0), (2, .int 0), (0, .ref 82), (1, .int w)]) (st' := [.int w]) rfl rfl rfl ?_
      refine go_iconst (v := 2) rfl (by decide) ?_
      refine go_ic (tgt := 82) rfl (by decide) (fun c => ?_) (fun c => ?_)
      ·
        have c3 : ¬ w.toInt = 2 := c
        refine go_s (pc' := 83) (lv' := [(3, .int 0), (2, .int 0), (0, .ref 82), (1, .int w)]) (st' := [.int w]) rfl rfl rfl ?_
        refine go_iconst (v := 3) rfl (by decide) ?_
        refine go_ic (tgt := 113) rfl (by decide) (fun c => ?_) (fun c => ?_)
        ·
          have c4 : ¬ w.toInt = 3 := c
          refine go_iconst (v := (-1)) rfl (by decide) ?_
          refine go_ri rfl rfl ?_
          exact ⟨(by unfold an_run; first | (rw [if_pos (by omega)]; done) | (rw [if_neg (by omega)]; done) | (rw [if_neg (by omega), if_pos (by omega)]; done) | (rw [if_neg (by omega), if_neg (by omega)]; done) | (rw [if_pos (by omega), if_pos (by omega)]; done) | (rw [if_pos (by omega), if_neg (by omega)]; done) | decide | (simp; omega)), x0⟩
        ·
          have c5 : ¬ (¬ w.toInt = 3) := c
          refine go_s (pc' := 88) (lv' := [(3, .int 0), (2, .int 0), (0, .ref 82), (1, .int w)]) (st' := [.ref 82]) rfl rfl rfl ?_
          refine go_get (v := .int 0) rfl (ab_fo q p1_o_p1_Hm_82 (by decide)) rfl ?_
          refine go_iff rfl (by decide) ?_
          refine go_bipush (v := (-4)) rfl (by decide) ?_
          refine go_goto (tgt := 114) rfl (by decide) ?_
          refine go_ri rfl rfl ?_
          exact ⟨(by unfold an_run; first | (rw [if_pos (by omega)]; done) | (rw [if_neg (by omega)]; done) | (rw [if_neg (by omega), if_pos (by omega)]; done) | (rw [if_neg (by omega), if_neg (by omega)]; done) | (rw [if_pos (by omega), if_pos (by omega)]; done) | (rw [if_pos (by omega), if_neg (by omega)]; done) | decide | (simp; omega)), x0⟩
      ·
        have c6 : ¬ (¬ w.toInt = 2) := c
        refine go_s (pc' := 76) (lv' := [(3, .int 0), (2, .int 0), (0, .ref 82), (1, .int w)]) (st' := [.ref 82]) rfl rfl rfl ?_
        refine go_get (v := .int 0) rfl (ab_fo q p1_o_p1_Hm_82 (by decide)) rfl ?_
        refine go_goto (tgt := 114) rfl (by decide) ?_
        refine go_ri rfl rfl ?_
        exact ⟨(by unfold an_run; first | (rw [if_pos (by omega)]; done) | (rw [if_neg (by omega)]; done) | (rw [if_neg (by omega), if_pos (by omega)]; done) | (rw [if_neg (by omega), if_neg (by omega)]; done) | (rw [if_pos (by omega), if_pos (by omega)]; done) | (rw [if_pos (by omega), if_neg (by omega)]; done) | decide | (simp; omega)), x0⟩
    ·
      have c7 : ¬ (¬ w.toInt = 1) := c
      refine go_s (pc' := 67) (lv' := [(3, .int 0), (2, .int 0), (0, .ref 82), (1, .int w)]) (st' := [.int 0]) rfl rfl rfl ?_
      refine go_goto (tgt := 114) rfl (by decide) ?_
      refine go_ri rfl rfl ?_
      exact ⟨(by unfold an_run; first | (rw [if_pos (by omega)]; done) | (rw [if_neg (by omega)]; done) | (rw [if_neg (by omega), if_pos (by omega)]; done) | (rw [if_neg (by omega), if_neg (by omega)]; done) | (rw [if_pos (by omega), if_pos (by omega)]; done) | (rw [if_pos (by omega), if_neg (by omega)]; done) | decide | (simp; omega)), x0⟩
  ·
    have c8 : ¬ (¬ w.toInt = 0) := c
    refine go_s (pc' := 50) (lv' := [(3, .int 0), (2, .int 0), (0, .ref 82), (1, .int w)]) (st' := [.ref 82]) rfl rfl rfl ?_
    refine go_get (v := .ref 115) rfl (ab_fo q p1_o_p1_Hm_82 (by decide)) rfl ?_
    refine go_s (pc' := 54) (lv' := [(3, .int 0), (2, .int 0), (0, .ref 82), (1, .int w)]) (st' := [.ref 82, .ref 115]) rfl rfl rfl ?_
    refine go_get (v := .int 0) rfl (ab_fo q p1_o_p1_Hm_82 (by decide)) rfl ?_
    obtain ⟨f9, h10, vh10⟩ := ab_fa q p1_a_p1_Hm_115_0
    refine go_ial (v := 0) rfl h10 (by decide) vh10 ?_
    refine go_goto (tgt := 114) rfl (by decide) ?_
    refine go_ri rfl rfl ?_
    exact ⟨(by unfold an_run; first | (rw [if_pos (by omega)]; done) | (rw [if_neg (by omega)]; done) | (rw [if_neg (by omega), if_pos (by omega)]; done) | (rw [if_neg (by omega), if_neg (by omega)]; done) | (rw [if_pos (by omega), if_pos (by omega)]; done) | (rw [if_pos (by omega), if_neg (by omega)]; done) | decide | (simp; omega)), x0⟩
set_option maxHeartbeats 16000000 in
set_option maxRecDepth 20000 in
theorem m_sheet {g : ab_H} (q : ab_sim p1_Sm p1_Hm g) (k : Int32) (t : Int32) (n : Int32) : ab_go 999 ab_M_X10_sheet 0 [(0, .ref 82), (1, .int k), (2, .int t), (3, .int n)] [] g (fun r g' => r = some (.int (an_sheet k t n)) ∧ p1_Y g g') := by
  have hz : g.1 = 120 := q.1.symm
  have x0 : p1_Y g g := ⟨q.1.symm, q.2.1.symm, rfl⟩
  refine go_s (pc' := 1) (lv' := [(0, .ref 82), (1, .int k), (2, .int t), (3, .int n)]) (st' := [.int k]) rfl rfl rfl ?_
  refine go_i2l (v := Int32.toInt64 k) rfl rfl ?_
  refine go_lconst (v := 0) rfl (by decide) ?_
  refine go_ldc2 (v := 3) rfl (by decide) ?_
  refine go_cc rfl rfl rfl (lv0 := [(0, .long (Int32.toInt64 k)), (2, .long 0), (4, .long 3)]) rfl ?_
  refine go_s (pc' := 1) (lv' := [(0, .long (Int32.toInt64 k)), (2, .long 0), (4, .long 3)]) (st' := [.long (Int32.toInt64 k)]) rfl rfl rfl ?_
  refine go_s (pc' := 2) (lv' := [(0, .long (Int32.toInt64 k)), (2, .long 0), (4, .long 3)]) (st' := [.long 0, .long (Int32.toInt64 k)]) rfl rfl rfl ?_
  refine go_lc (v := lg_cmp (Int32.toInt64 k) 0) rfl rfl ?_
  refine go_ifl (tgt := 17) rfl (by decide) (fun c => ?_) (fun c => ?_)
  ·
    have c1 : k.toInt < 0 := by first | exact c | (rw [Int32.toInt_toInt64] at c; exact c) | (rw [Int32.toInt_toInt64, Int32.toInt_toInt64] at c; exact c)
    refine go_iconst (v := 0) rfl (by decide) ?_
    refine go_rz rfl rfl (by decide) ?_
    show ab_go 999 ab_M_X10_sheet 9 [(0, .ref 82), (1, .int k), (2, .int t), (3, .int n)] [.int 0] g _
    refine go_ift (tgt := 30) rfl (by decide) (by decide) ?_
    refine go_iconst (v := (-1)) rfl (by decide) ?_
    refine go_ri rfl rfl ?_
    exact ⟨(by unfold an_sheet; first | (rw [if_pos (by omega)]; done) | (rw [if_neg (by omega)]; done) | (rw [if_neg (by omega), if_pos (by omega)]; done) | (rw [if_neg (by omega), if_neg (by omega)]; done) | (rw [if_pos (by omega), if_pos (by omega)]; done) | (rw [if_pos (by omega), if_neg (by omega)]; done) | decide | (simp; omega)), x0⟩
  ·
    have c2 : ¬ k.toInt < 0 := by first | exact c | (rw [Int32.toInt_toInt64] at c; exact c) | (rw [Int32.toInt_toInt64, Int32.toInt_toInt64] at c; exact c)
    refine go_s (pc' := 7) (lv' := [(0, .long (Int32.toInt64 k)), (2, .long 0), (4, .long 3)]) (st' := [.long (Int32.toInt64 k)]) rfl rfl rfl ?_
    refine go_s (pc' := 9) (lv' := [(0, .long (Int32.toInt64 k)), (2, .long 0), (4, .long 3)]) (st' := [.long 3, .long (Int32.toInt64 k)]) rfl rfl rfl ?_
    refine go_lc (v := lg_cmp (Int32.toInt64 k) 3) rfl rfl ?_
    refine go_ifl (tgt := 17) rfl (by decide) (fun c => ?_) (fun c => ?_)
    ·
      have c3 : 3 < k.toInt := by first | exact c | (rw [Int32.toInt_toInt64] at c; exact c) | (rw [Int32.toInt_toInt64, Int32.toInt_toInt64] at c; exact c)
      refine go_iconst (v := 0) rfl (by decide) ?_
      refine go_rz rfl rfl (by decide) ?_
      show ab_go 999 ab_M_X10_sheet 9 [(0, .ref 82), (1, .int k), (2, .int t), (3, .int n)] [.int 0] g _
      refine go_ift (tgt := 30) rfl (by decide) (by decide) ?_
      refine go_iconst (v := (-1)) rfl (by decide) ?_
      refine go_ri rfl rfl ?_
      exact ⟨(by unfold an_sheet; first | (rw [if_pos (by omega)]; done) | (rw [if_neg (by omega)]; done) | (rw [if_neg (by omega), if_pos (by omega)]; done) | (rw [if_neg (by omega), if_neg (by omega)]; done) | (rw [if_pos (by omega), if_pos (by omega)]; done) | (rw [if_pos (by omega), if_neg (by omega)]; done) | decide | (simp; omega)), x0⟩
    ·
      have c4 : ¬ 3 < k.toInt := by first | exact c | (rw [Int32.toInt_toInt64] at c; exact c) | (rw [Int32.toInt_toInt64, Int32.toInt_toInt64] at c; exact c)
      refine go_iconst (v := 1) rfl (by decide) ?_
      refine go_goto (tgt := 18) rfl (by decide) ?_
      refine go_rz rfl rfl (by decide) ?_
      show ab_go 999 ab_M_X10_sheet 9 [(0, .ref 82), (1, .int k), (2, .int t), (3, .int n)] [.int 1] g _
      refine go_iff rfl (by decide) ?_
      refine go_s (pc' := 13) (lv' := [(0, .ref 82), (1, .int k), (2, .int t), (3, .int n)]) (st' := [.int t]) rfl rfl rfl ?_
      refine go_i2l (v := Int32.toInt64 t) rfl rfl ?_
      refine go_lconst (v := 0) rfl (by decide) ?_
      refine go_ldc2 (v := 2) rfl (by decide) ?_
      refine go_cc rfl rfl rfl (lv0 := [(0, .long (Int32.toInt64 t)), (2, .long 0), (4, .long 2)]) rfl ?_
      refine go_s (pc' := 1) (lv' := [(0, .long (Int32.toInt64 t)), (2, .long 0), (4, .long 2)]) (st' := [.long (Int32.toInt64 t)]) rfl rfl rfl ?_
      refine go_s (pc' := 2) (lv' := [(0, .long (Int32.toInt64 t)), (2, .long 0), (4, .long 2)]) (st' := [.long 0, .long (Int32.toInt64 t)]) rfl rfl rfl ?_
      refine go_lc (v := lg_cmp (Int32.toInt64 t) 0) rfl rfl ?_
      refine go_ifl (tgt := 17) rfl (by decide) (fun c => ?_) (fun c => ?_)
      ·
        have c5 : t.toInt < 0 := by first | exact c | (rw [Int32.toInt_toInt64] at c; exact c) | (rw [Int32.toInt_toInt64, Int32.toInt_toInt64] at c; exact c)
        refine go_iconst (v := 0) rfl (by decide) ?_
        refine go_rz rfl rfl (by decide) ?_
        show ab_go 999 ab_M_X10_sheet 21 [(0, .ref 82), (1, .int k), (2, .int t), (3, .int n)] [.int 0] g _
        refine go_ift (tgt := 30) rfl (by decide) (by decide) ?_
        refine go_iconst (v := (-1)) rfl (by decide) ?_
        refine go_ri rfl rfl ?_
        exact ⟨(by unfold an_sheet; first | (rw [if_pos (by omega)]; done) | (rw [if_neg (by omega)]; done) | (rw [if_neg (by omega), if_pos (by omega)]; done) | (rw [if_neg (by omega), if_neg (by omega)]; done) | (rw [if_pos (by omega), if_pos (by omega)]; done) | (rw [if_pos (by omega), if_neg (by omega)]; done) | decide | (simp; omega)), x0⟩
      ·
        have c6 : ¬ t.toInt < 0 := by first | exact c | (rw [Int32.toInt_toInt64] at c; exact c) | (rw [Int32.toInt_toInt64, Int32.toInt_toInt64] at c; exact c)
        refine go_s (pc' := 7) (lv' := [(0, .long (Int32.toInt64 t)), (2, .long 0), (4, .long 2)]) (st' := [.long (Int32.toInt64 t)]) rfl rfl rfl ?_
        refine go_s (pc' := 9) (lv' := [(0, .long (Int32.toInt64 t)), (2, .long 0), (4, .long 2)]) (st' := [.long 2, .long (Int32.toInt64 t)]) rfl rfl rfl ?_
        refine go_lc (v := lg_cmp (Int32.toInt64 t) 2) rfl rfl ?_
        refine go_ifl (tgt := 17) rfl (by decide) (fun c => ?_) (fun c => ?_)
        ·
          have c7 : 2 < t.toInt := by first | exact c | (rw [Int32.toInt_toInt64] at c; exact c) | (rw [Int32.toInt_toInt64, Int32.toInt_toInt64] at c; exact c)
          refine go_iconst (v := 0) rfl (by decide) ?_
          refine go_rz rfl rfl (by decide) ?_
          show ab_go 999 ab_M_X10_sheet 21 [(0, .ref 82), (1, .int k), (2, .int t), (3, .int n)] [.int 0] g _
          refine go_ift (tgt := 30) rfl (by decide) (by decide) ?_
          refine go_iconst (v := (-1)) rfl (by decide) ?_
          refine go_ri rfl rfl ?_
          exact ⟨(by unfold an_sheet; first | (rw [if_pos (by omega)]; done) | (rw [if_neg (by omega)]; done) | (rw [if_neg (by omega), if_pos (by omega)]; done) | (rw [if_neg (by omega), if_neg (by omega)]; done) | (rw [if_pos (by omega), if_pos (by omega)]; done) | (rw [if_pos (by omega), if_neg (by omega)]; done) | decide | (simp; omega)), x0⟩
        ·
          have c8 : ¬ 2 < t.toInt := by first | exact c | (rw [Int32.toInt_toInt64] at c; exact c) | (rw [Int32.toInt_toInt64, Int32.toInt_toInt64] at c; exact c)
          refine go_iconst (v := 1) rfl (by decide) ?_
          refine go_goto (tgt := 18) rfl (by decide) ?_
          refine go_rz rfl rfl (by decide) ?_
          show ab_go 999 ab_M_X10_sheet 21 [(0, .ref 82), (1, .int k), (2, .int t), (3, .int n)] [.int 1] g _
          refine go_iff rfl (by decide) ?_
          refine go_s (pc' := 25) (lv' := [(0, .ref 82), (1, .int k), (2, .int t), (3, .int n)]) (st' := [.int n]) rfl rfl rfl ?_
          refine go_bipush (v := 64) rfl (by decide) ?_
          refine go_ic (tgt := 32) rfl (by decide) (fun c => ?_) (fun c => ?_)
          ·
            have c9 : n.toInt ≤ 64 := c
            refine go_s (pc' := 33) (lv' := [(0, .ref 82), (1, .int k), (2, .int t), (3, .int n)]) (st' := [.int n]) rfl rfl rfl ?_
            refine go_if (tgt := 39) rfl (by decide) (fun c => ?_) (fun c => ?_)
            ·
              have c10 : 0 ≤ n.toInt := c
              refine go_s (pc' := 40) (lv' := [(0, .ref 82), (1, .int k), (2, .int t), (3, .int n)]) (st' := [.ref 82]) rfl rfl rfl ?_
              refine go_get (v := .ref 117) rfl (ab_fo q p1_o_p1_Hm_82 (by decide)) rfl ?_
              refine go_s (pc' := 44) (lv' := [(0, .ref 82), (1, .int k), (2, .int t), (3, .int n)]) (st' := [.int k, .ref 117]) rfl rfl rfl ?_
              refine go_s (pc' := 45) (lv' := [(0, .ref 82), (1, .int k), (2, .int t), (3, .int n)]) (st' := [.int t, .int k, .ref 117]) rfl rfl rfl ?_
              by_cases c11 : k.toInt = 0
              ·
                obtain rfl : k = 0 := ab_i0 0 (by have e : (0 : Int32).toInt = 0 := rfl; omega)
                obtain ⟨f12, h13, vh13⟩ := ab_fa q p1_a_p1_Hm_117_0
                refine go_ias rfl h13 (by decide) (by decide) ?_
                generalize upd f12 (Int32.toNatClampNeg 0) t = f14
                obtain ⟨hk15, ehk15⟩ : ∃ q, ab_wr g 117 (.inl (0, 4, .inl f14)) = q := ⟨_, rfl⟩
                have zk15 : hk15.1 = 120 := by rw [← ehk15]; exact hz
                have xk15 : p1_Y g hk15 := by rw [← ehk15]; exact x0.wr (by decide) _
                have rk15_117 : ab_rd hk15 117 = some (.inl (0, 4, .inl f14)) := by rw [← ehk15]; exact ab_rd_self (by rw [hz]; decide)
                suffices hz : ab_go 999 ab_M_X10_sheet 46 [(0, .ref 82), (1, .int 0), (2, .int t), (3, .int n)] [] hk15 _ by rw [← ehk15] at hz; exact hz
                refine go_s (pc' := 47) (lv' := [(0, .ref 82), (1, .int 0), (2, .int t), (3, .int n)]) (st' := [.ref 82]) rfl rfl rfl ?_
                refine go_get (v := .ref 118) rfl (by rw [← ehk15, ab_rd_other (by decide)]; exact ab_fo q p1_o_p1_Hm_82 (by decide)) rfl ?_
                refine go_s (pc' := 51) (lv' := [(0, .ref 82), (1, .int 0), (2, .int t), (3, .int n)]) (st' := [.int 0, .ref 118]) rfl rfl rfl ?_
                refine go_s (pc' := 52) (lv' := [(0, .ref 82), (1, .int 0), (2, .int t), (3, .int n)]) (st' := [.int n, .int 0, .ref 118]) rfl rfl rfl ?_
                obtain ⟨f16, h17, vh17⟩ := ab_fa q p1_a_p1_Hm_118_0
                refine go_ias rfl (by rw [← ehk15, ab_rd_other (by decide)]; exact h17) (by decide) (by decide) ?_
                generalize upd f16 (Int32.toNatClampNeg 0) n = f18
                obtain ⟨hk19, ehk19⟩ : ∃ q, ab_wr hk15 118 (.inl (0, 4, .inl f18)) = q := ⟨_, rfl⟩
                have zk19 : hk19.1 = 120 := by rw [← ehk19]; exact zk15
                have xk19 : p1_Y g hk19 := by rw [← ehk19]; exact xk15.wr (by decide) _
                have rk19_118 : ab_rd hk19 118 = some (.inl (0, 4, .inl f18)) := by rw [← ehk19]; exact ab_rd_self (by rw [zk15]; decide)
                suffices hz : ab_go 999 ab_M_X10_sheet 53 [(0, .ref 82), (1, .int 0), (2, .int t), (3, .int n)] [] hk19 _ by rw [← ehk19] at hz; exact hz
                refine go_iconst (v := 0) rfl (by decide) ?_
                refine go_s (pc' := 56) (lv' := [(4, .int 0), (0, .ref 82), (1, .int 0), (2, .int t), (3, .int n)]) (st' := []) rfl rfl rfl ?_
                obtain ⟨f20, h21, vh21⟩ := ab_fa q p1_a_p1_Hm_119_0
                obtain ⟨nn, rr, hF, hx, hr, z, w0, f0⟩ := m_sheet_loop 0 (by decide) (t := t) (n := n) 64 0 rfl (h := hk19) (by rw [← ehk19, ab_rd_other (by decide), ← ehk15, ab_rd_other (by decide)]; exact ab_fo q p1_o_p1_Hm_82 (by decide)) rfl (by rw [← ehk19, ab_rd_other (by decide), ← ehk15, ab_rd_other (by decide)]; exact h21) zk19 xk19.2.1
                refine ⟨nn, rr, hF, hx, ?_, z, w0, f0.trans xk19.2.2⟩
                rw [hr]; unfold an_sheet; rw [if_pos (by omega), if_neg (by omega)]
              ·
                by_cases c22 : k.toInt = 1
                ·
                  obtain rfl : k = 1 := ab_i0 1 (by have e : (1 : Int32).toInt = 1 := rfl; omega)
                  obtain ⟨f23, h24, vh24⟩ := ab_fa q p1_a_p1_Hm_117_0
                  refine go_ias rfl h24 (by decide) (by decide) ?_
                  generalize upd f23 (Int32.toNatClampNeg 1) t = f25
                  obtain ⟨hk26, ehk26⟩ : ∃ q, ab_wr g 117 (.inl (0, 4, .inl f25)) = q := ⟨_, rfl⟩
                  have zk26 : hk26.1 = 120 := by rw [← ehk26]; exact hz
                  have xk26 : p1_Y g hk26 := by rw [← ehk26]; exact x0.wr (by decide) _
                  have rk26_117 : ab_rd hk26 117 = some (.inl (0, 4, .inl f25)) := by rw [← ehk26]; exact ab_rd_self (by rw [hz]; decide)
                  suffices hz : ab_go 999 ab_M_X10_sheet 46 [(0, .ref 82), (1, .int 1), (2, .int t), (3, .int n)] [] hk26 _ by rw [← ehk26] at hz; exact hz
                  refine go_s (pc' := 47) (lv' := [(0, .ref 82), (1, .int 1), (2, .int t), (3, .int n)]) (st' := [.ref 82]) rfl rfl rfl ?_
                  refine go_get (v := .ref 118) rfl (by rw [← ehk26, ab_rd_other (by decide)]; exact ab_fo q p1_o_p1_Hm_82 (by decide)) rfl ?_
                  refine go_s (pc' := 51) (lv' := [(0, .ref 82), (1, .int 1), (2, .int t), (3, .int n)]) (st' := [.int 1, .ref 118]) rfl rfl rfl ?_
                  refine go_s (pc' := 52) (lv' := [(0, .ref 82), (1, .int 1), (2, .int t), (3, .int n)]) (st' := [.int n, .int 1, .ref 118]) rfl rfl rfl ?_
                  obtain ⟨f27, h28, vh28⟩ := ab_fa q p1_a_p1_Hm_118_0
                  refine go_ias rfl (by rw [← ehk26, ab_rd_other (by decide)]; exact h28) (by decide) (by decide) ?_
                  generalize upd f27 (Int32.toNatClampNeg 1) n = f29
                  obtain ⟨hk30, ehk30⟩ : ∃ q, ab_wr hk26 118 (.inl (0, 4, .inl f29)) = q := ⟨_, rfl⟩
                  have zk30 : hk30.1 = 120 := by rw [← ehk30]; exact zk26
                  have xk30 : p1_Y g hk30 := by rw [← ehk30]; exact xk26.wr (by decide) _
                  have rk30_118 : ab_rd hk30 118 = some (.inl (0, 4, .inl f29)) := by rw [← ehk30]; exact ab_rd_self (by rw [zk26]; decide)
                  suffices hz : ab_go 999 ab_M_X10_sheet 53 [(0, .ref 82), (1, .int 1), (2, .int t), (3, .int n)] [] hk30 _ by rw [← ehk30] at hz; exact hz
                  refine go_iconst (v := 0) rfl (by decide) ?_
                  refine go_s (pc' := 56) (lv' := [(4, .int 0), (0, .ref 82), (1, .int 1), (2, .int t), (3, .int n)]) (st' := []) rfl rfl rfl ?_
                  obtain ⟨f31, h32, vh32⟩ := ab_fa q p1_a_p1_Hm_119_0
                  obtain ⟨nn, rr, hF, hx, hr, z, w0, f0⟩ := m_sheet_loop 1 (by decide) (t := t) (n := n) 64 0 rfl (h := hk30) (by rw [← ehk30, ab_rd_other (by decide), ← ehk26, ab_rd_other (by decide)]; exact ab_fo q p1_o_p1_Hm_82 (by decide)) rfl (by rw [← ehk30, ab_rd_other (by decide), ← ehk26, ab_rd_other (by decide)]; exact h32) zk30 xk30.2.1
                  refine ⟨nn, rr, hF, hx, ?_, z, w0, f0.trans xk30.2.2⟩
                  rw [hr]; unfold an_sheet; rw [if_pos (by omega), if_neg (by omega)]
                ·
                  by_cases c33 : k.toInt = 2
                  ·
                    obtain rfl : k = 2 := ab_i0 2 (by have e : (2 : Int32).toInt = 2 := rfl; omega)
                    obtain ⟨f34, h35, vh35⟩ := ab_fa q p1_a_p1_Hm_117_0
                    refine go_ias rfl h35 (by decide) (by decide) ?_
                    generalize upd f34 (Int32.toNatClampNeg 2) t = f36
                    obtain ⟨hk37, ehk37⟩ : ∃ q, ab_wr g 117 (.inl (0, 4, .inl f36)) = q := ⟨_, rfl⟩
                    have zk37 : hk37.1 = 120 := by rw [← ehk37]; exact hz
                    have xk37 : p1_Y g hk37 := by rw [← ehk37]; exact x0.wr (by decide) _
                    have rk37_117 : ab_rd hk37 117 = some (.inl (0, 4, .inl f36)) := by rw [← ehk37]; exact ab_rd_self (by rw [hz]; decide)
                    suffices hz : ab_go 999 ab_M_X10_sheet 46 [(0, .ref 82), (1, .int 2), (2, .int t), (3, .int n)] [] hk37 _ by rw [← ehk37] at hz; exact hz
                    refine go_s (pc' := 47) (lv' := [(0, .ref 82), (1, .int 2), (2, .int t), (3, .int n)]) (st' := [.ref 82]) rfl rfl rfl ?_
                    refine go_get (v := .ref 118) rfl (by rw [← ehk37, ab_rd_other (by decide)]; exact ab_fo q p1_o_p1_Hm_82 (by decide)) rfl ?_
                    refine go_s (pc' := 51) (lv' := [(0, .ref 82), (1, .int 2), (2, .int t), (3, .int n)]) (st' := [.int 2, .ref 118]) rfl rfl rfl ?_
                    refine go_s (pc' := 52) (lv' := [(0, .ref 82), (1, .int 2), (2, .int t), (3, .int n)]) (st' := [.int n, .int 2, .ref 118]) rfl rfl rfl ?_
                    obtain ⟨f38, h39, vh39⟩ := ab_fa q p1_a_p1_Hm_118_0
                    refine go_ias rfl (by rw [← ehk37, ab_rd_other (by decide)]; exact h39) (by decide) (by decide) ?_
                    generalize upd f38 (Int32.toNatClampNeg 2) n = f40
                    obtain ⟨hk41, ehk41⟩ : ∃ q, ab_wr hk37 118 (.inl (0, 4, .inl f40)) = q := ⟨_, rfl⟩
                    have zk41 : hk41.1 = 120 := by rw [← ehk41]; exact zk37
                    have xk41 : p1_Y g hk41 := by rw [← ehk41]; exact xk37.wr (by decide) _
                    have rk41_118 : ab_rd hk41 118 = some (.inl (0, 4, .inl f40)) := by rw [← ehk41]; exact ab_rd_self (by rw [zk37]; decide)
                    suffices hz : ab_go 999 ab_M_X10_sheet 53 [(0, .ref 82), (1, .int 2), (2, .int t), (3, .int n)] [] hk41 _ by rw [← ehk41] at hz; exact hz
                    refine go_iconst (v := 0) rfl (by decide) ?_
                    refine go_s (pc' := 56) (lv' := [(4, .int 0), (0, .ref 82), (1, .int 2), (2, .int t), (3, .int n)]) (st' := []) rfl rfl rfl ?_
                    obtain ⟨f42, h43, vh43⟩ := ab_fa q p1_a_p1_Hm_119_0
                    obtain ⟨nn, rr, hF, hx, hr, z, w0, f0⟩ := m_sheet_loop 2 (by decide) (t := t) (n := n) 64 0 rfl (h := hk41) (by rw [← ehk41, ab_rd_other (by decide), ← ehk37, ab_rd_other (by decide)]; exact ab_fo q p1_o_p1_Hm_82 (by decide)) rfl (by rw [← ehk41, ab_rd_other (by decide), ← ehk37, ab_rd_other (by decide)]; exact h43) zk41 xk41.2.1
                    refine ⟨nn, rr, hF, hx, ?_, z, w0, f0.trans xk41.2.2⟩
                    rw [hr]; unfold an_sheet; rw [if_pos (by omega), if_neg (by omega)]
                  ·
                    obtain rfl : k = 3 := ab_i0 3 (by have e : (3 : Int32).toInt = 3 := rfl; omega)
                    obtain ⟨f44, h45, vh45⟩ := ab_fa q p1_a_p1_Hm_117_0
                    refine go_ias rfl h45 (by decide) (by decide) ?_
                    generalize upd f44 (Int32.toNatClampNeg 3) t = f46
                    obtain ⟨hk47, ehk47⟩ : ∃ q, ab_wr g 117 (.inl (0, 4, .inl f46)) = q := ⟨_, rfl⟩
                    have zk47 : hk47.1 = 120 := by rw [← ehk47]; exact hz
                    have xk47 : p1_Y g hk47 := by rw [← ehk47]; exact x0.wr (by decide) _
                    have rk47_117 : ab_rd hk47 117 = some (.inl (0, 4, .inl f46)) := by rw [← ehk47]; exact ab_rd_self (by rw [hz]; decide)
                    suffices hz : ab_go 999 ab_M_X10_sheet 46 [(0, .ref 82), (1, .int 3), (2, .int t), (3, .int n)] [] hk47 _ by rw [← ehk47] at hz; exact hz
                    refine go_s (pc' := 47) (lv' := [(0, .ref 82), (1, .int 3), (2, .int t), (3, .int n)]) (st' := [.ref 82]) rfl rfl rfl ?_
                    refine go_get (v := .ref 118) rfl (by rw [← ehk47, ab_rd_other (by decide)]; exact ab_fo q p1_o_p1_Hm_82 (by decide)) rfl ?_
                    refine go_s (pc' := 51) (lv' := [(0, .ref 82), (1, .int 3), (2, .int t), (3, .int n)]) (st' := [.int 3, .ref 118]) rfl rfl rfl ?_
                    refine go_s (pc' := 52) (lv' := [(0, .ref 82), (1, .int 3), (2, .int t), (3, .int n)]) (st' := [.int n, .int 3, .ref 118]) rfl rfl rfl ?_
                    obtain ⟨f48, h49, vh49⟩ := ab_fa q p1_a_p1_Hm_118_0
                    refine go_ias rfl (by rw [← ehk47, ab_rd_other (by decide)]; exact h49) (by decide) (by decide) ?_
                    generalize upd f48 (Int32.toNatClampNeg 3) n = f50
                    obtain ⟨hk51, ehk51⟩ : ∃ q, ab_wr hk47 118 (.inl (0, 4, .inl f50)) = q := ⟨_, rfl⟩
                    have zk51 : hk51.1 = 120 := by rw [← ehk51]; exact zk47
                    have xk51 : p1_Y g hk51 := by rw [← ehk51]; exact xk47.wr (by decide) _
                    have rk51_118 : ab_rd hk51 118 = some (.inl (0, 4, .inl f50)) := by rw [← ehk51]; exact ab_rd_self (by rw [zk47]; decide)
                    suffices hz : ab_go 999 ab_M_X10_sheet 53 [(0, .ref 82), (1, .int 3), (2, .int t), (3, .int n)] [] hk51 _ by rw [← ehk51] at hz; exact hz
                    refine go_iconst (v := 0) rfl (by decide) ?_
                    refine go_s (pc' := 56) (lv' := [(4, .int 0), (0, .ref 82), (1, .int 3), (2, .int t), (3, .int n)]) (st' := []) rfl rfl rfl ?_
                    obtain ⟨f52, h53, vh53⟩ := ab_fa q p1_a_p1_Hm_119_0
                    obtain ⟨nn, rr, hF, hx, hr, z, w0, f0⟩ := m_sheet_loop 3 (by decide) (t := t) (n := n) 64 0 rfl (h := hk51) (by rw [← ehk51, ab_rd_other (by decide), ← ehk47, ab_rd_other (by decide)]; exact ab_fo q p1_o_p1_Hm_82 (by decide)) rfl (by rw [← ehk51, ab_rd_other (by decide), ← ehk47, ab_rd_other (by decide)]; exact h53) zk51 xk51.2.1
                    refine ⟨nn, rr, hF, hx, ?_, z, w0, f0.trans xk51.2.2⟩
                    rw [hr]; unfold an_sheet; rw [if_pos (by omega), if_neg (by omega)]
            ·
              have c54 : ¬ 0 ≤ n.toInt := c
              refine go_bipush (v := (-14)) rfl (by decide) ?_
              refine go_ri rfl rfl ?_
              exact ⟨(by unfold an_sheet; first | (rw [if_pos (by omega)]; done) | (rw [if_neg (by omega)]; done) | (rw [if_neg (by omega), if_pos (by omega)]; done) | (rw [if_neg (by omega), if_neg (by omega)]; done) | (rw [if_pos (by omega), if_pos (by omega)]; done) | (rw [if_pos (by omega), if_neg (by omega)]; done) | decide | (simp; omega)), x0⟩
          ·
            have c55 : ¬ n.toInt ≤ 64 := c
            refine go_iconst (v := (-1)) rfl (by decide) ?_
            refine go_ri rfl rfl ?_
            exact ⟨(by unfold an_sheet; first | (rw [if_pos (by omega)]; done) | (rw [if_neg (by omega)]; done) | (rw [if_neg (by omega), if_pos (by omega)]; done) | (rw [if_neg (by omega), if_neg (by omega)]; done) | (rw [if_pos (by omega), if_pos (by omega)]; done) | (rw [if_pos (by omega), if_neg (by omega)]; done) | decide | (simp; omega)), x0⟩
set_option maxHeartbeats 16000000 in
set_option maxRecDepth 20000 in
theorem m_lay {g : ab_H} (q : ab_sim p1_Sm p1_Hm g) (k : Int32) (i : Int32) (v : Int32) : ab_go 999 ab_M_X10_lay 0 [(0, .ref 82), (1, .int k), (2, .int i), (3, .int v)] [] g (fun r g' => r = some (.int (an_lay k)) ∧ p1_Y g g') := by
  have hz : g.1 = 120 := q.1.symm
  have x0 : p1_Y g g := ⟨q.1.symm, q.2.1.symm, rfl⟩
  refine go_s (pc' := 1) (lv' := [(0, .ref 82), (1, .int k), (2, .int i), (3, .int v)]) (st' := [.int k]) rfl rfl rfl ?_
  refine go_i2l (v := Int32.toInt64 k) rfl rfl ?_
  refine go_lconst (v := 0) rfl (by decide) ?_
  refine go_ldc2 (v := 3) rfl (by decide) ?_
  refine go_cc rfl rfl rfl (lv0 := [(0, .long (Int32.toInt64 k)), (2, .long 0), (4, .long 3)]) rfl ?_
  refine go_s (pc' := 1) (lv' := [(0, .long (Int32.toInt64 k)), (2, .long 0), (4, .long 3)]) (st' := [.long (Int32.toInt64 k)]) rfl rfl rfl ?_
  refine go_s (pc' := 2) (lv' := [(0, .long (Int32.toInt64 k)), (2, .long 0), (4, .long 3)]) (st' := [.long 0, .long (Int32.toInt64 k)]) rfl rfl rfl ?_
  refine go_lc (v := lg_cmp (Int32.toInt64 k) 0) rfl rfl ?_
  refine go_ifl (tgt := 17) rfl (by decide) (fun c => ?_) (fun c => ?_)
  ·
    have c1 : k.toInt < 0 := by first | exact c | (rw [Int32.toInt_toInt64] at c; exact c) | (rw [Int32.toInt_toInt64, Int32.toInt_toInt64] at c; exact c)
    refine go_iconst (v := 0) rfl (by decide) ?_
    refine go_rz rfl rfl (by decide) ?_
    show ab_go 999 ab_M_X10_lay 9 [(0, .ref 82), (1, .int k), (2, .int i), (3, .int v)] [.int 0] g _
    refine go_iff rfl (by decide) ?_
    refine go_iconst (v := (-1)) rfl (by decide) ?_
    refine go_ri rfl rfl ?_
    exact ⟨(by unfold an_lay; first | (rw [if_pos (by omega)]; done) | (rw [if_neg (by omega)]; done) | (rw [if_neg (by omega), if_pos (by omega)]; done) | (rw [if_neg (by omega), if_neg (by omega)]; done) | (rw [if_pos (by omega), if_pos (by omega)]; done) | (rw [if_pos (by omega), if_neg (by omega)]; done) | decide | (simp; omega)), x0⟩
  ·
    have c2 : ¬ k.toInt < 0 := by first | exact c | (rw [Int32.toInt_toInt64] at c; exact c) | (rw [Int32.toInt_toInt64, Int32.toInt_toInt64] at c; exact c)
    refine go_s (pc' := 7) (lv' := [(0, .long (Int32.toInt64 k)), (2, .long 0), (4, .long 3)]) (st' := [.long (Int32.toInt64 k)]) rfl rfl rfl ?_
    refine go_s (pc' := 9) (lv' := [(0, .long (Int32.toInt64 k)), (2, .long 0), (4, .long 3)]) (st' := [.long 3, .long (Int32.toInt64 k)]) rfl rfl rfl ?_
    refine go_lc (v := lg_cmp (Int32.toInt64 k) 3) rfl rfl ?_
    refine go_ifl (tgt := 17) rfl (by decide) (fun c => ?_) (fun c => ?_)
    ·
      have c3 : 3 < k.toInt := by first | exact c | (rw [Int32.toInt_toInt64] at c; exact c) | (rw [Int32.toInt_toInt64, Int32.toInt_toInt64] at c; exact c)
      refine go_iconst (v := 0) rfl (by decide) ?_
      refine go_rz rfl rfl (by decide) ?_
      show ab_go 999 ab_M_X10_lay 9 [(0, .ref 82), (1, .int k), (2, .int i), (3, .int v)] [.int 0] g _
      refine go_iff rfl (by decide) ?_
      refine go_iconst (v := (-1)) rfl (by decide) ?_
      refine go_ri rfl rfl ?_
      exact ⟨(by unfold an_lay; first | (rw [if_pos (by omega)]; done) | (rw [if_neg (by omega)]; done) | (rw [if_neg (by omega), if_pos (by omega)]; done) | (rw [if_neg (by omega), if_neg (by omega)]; done) | (rw [if_pos (by omega), if_pos (by omega)]; done) | (rw [if_pos (by omega), if_neg (by omega)]; done) | decide | (simp; omega)), x0⟩
    ·
      have c4 : ¬ 3 < k.toInt := by first | exact c | (rw [Int32.toInt_toInt64] at c; exact c) | (rw [Int32.toInt_toInt64, Int32.toInt_toInt64] at c; exact c)
      refine go_iconst (v := 1) rfl (by decide) ?_
      refine go_goto (tgt := 18) rfl (by decide) ?_
      refine go_rz rfl rfl (by decide) ?_
      show ab_go 999 ab_M_X10_lay 9 [(0, .ref 82), (1, .int k), (2, .int i), (3, .int v)] [.int 1] g _
      refine go_ift (tgt := 14) rfl (by decide) (by decide) ?_
      refine go_s (pc' := 15) (lv' := [(0, .ref 82), (1, .int k), (2, .int i), (3, .int v)]) (st' := [.ref 82]) rfl rfl rfl ?_
      refine go_get (v := .ref 117) rfl (ab_fo q p1_o_p1_Hm_82 (by decide)) rfl ?_
      refine go_s (pc' := 19) (lv' := [(0, .ref 82), (1, .int k), (2, .int i), (3, .int v)]) (st' := [.int k, .ref 117]) rfl rfl rfl ?_
      by_cases c5 : k.toInt = 0
      ·
        obtain rfl : k = 0 := ab_i0 0 (by have e : (0 : Int32).toInt = 0 := rfl; omega)
        obtain ⟨f6, h7, vh7⟩ := ab_fa q p1_a_p1_Hm_117_0
        refine go_ial (v := (-4)) rfl h7 (by decide) vh7 ?_
        refine go_bipush (v := (-4)) rfl (by decide) ?_
        refine go_icf rfl (by decide) ?_
        refine go_bipush (v := (-11)) rfl (by decide) ?_
        refine go_ri rfl rfl ?_
        exact ⟨(by unfold an_lay; first | (rw [if_pos (by omega)]; done) | (rw [if_neg (by omega)]; done) | (rw [if_neg (by omega), if_pos (by omega)]; done) | (rw [if_neg (by omega), if_neg (by omega)]; done) | (rw [if_pos (by omega), if_pos (by omega)]; done) | (rw [if_pos (by omega), if_neg (by omega)]; done) | decide | (simp; omega)), x0⟩
      ·
        by_cases c8 : k.toInt = 1
        ·
          obtain rfl : k = 1 := ab_i0 1 (by have e : (1 : Int32).toInt = 1 := rfl; omega)
          obtain ⟨f9, h10, vh10⟩ := ab_fa q p1_a_p1_Hm_117_1
          refine go_ial (v := (-4)) rfl h10 (by decide) vh10 ?_
          refine go_bipush (v := (-4)) rfl (by decide) ?_
          refine go_icf rfl (by decide) ?_
          refine go_bipush (v := (-11)) rfl (by decide) ?_
          refine go_ri rfl rfl ?_
          exact ⟨(by unfold an_lay; first | (rw [if_pos (by omega)]; done) | (rw [if_neg (by omega)]; done) | (rw [if_neg (by omega), if_pos (by omega)]; done) | (rw [if_neg (by omega), if_neg (by omega)]; done) | (rw [if_pos (by omega), if_pos (by omega)]; done) | (rw [if_pos (by omega), if_neg (by omega)]; done) | decide | (simp; omega)), x0⟩
        ·
          by_cases c11 : k.toInt = 2
          ·
            obtain rfl : k = 2 := ab_i0 2 (by have e : (2 : Int32).toInt = 2 := rfl; omega)
            obtain ⟨f12, h13, vh13⟩ := ab_fa q p1_a_p1_Hm_117_2
            refine go_ial (v := (-4)) rfl h13 (by decide) vh13 ?_
            refine go_bipush (v := (-4)) rfl (by decide) ?_
            refine go_icf rfl (by decide) ?_
            refine go_bipush (v := (-11)) rfl (by decide) ?_
            refine go_ri rfl rfl ?_
            exact ⟨(by unfold an_lay; first | (rw [if_pos (by omega)]; done) | (rw [if_neg (by omega)]; done) | (rw [if_neg (by omega), if_pos (by omega)]; done) | (rw [if_neg (by omega), if_neg (by omega)]; done) | (rw [if_pos (by omega), if_pos (by omega)]; done) | (rw [if_pos (by omega), if_neg (by omega)]; done) | decide | (simp; omega)), x0⟩
          ·
            obtain rfl : k = 3 := ab_i0 3 (by have e : (3 : Int32).toInt = 3 := rfl; omega)
            obtain ⟨f14, h15, vh15⟩ := ab_fa q p1_a_p1_Hm_117_3
            refine go_ial (v := (-4)) rfl h15 (by decide) vh15 ?_
            refine go_bipush (v := (-4)) rfl (by decide) ?_
            refine go_icf rfl (by decide) ?_
            refine go_bipush (v := (-11)) rfl (by decide) ?_
            refine go_ri rfl rfl ?_
            exact ⟨(by unfold an_lay; first | (rw [if_pos (by omega)]; done) | (rw [if_neg (by omega)]; done) | (rw [if_neg (by omega), if_pos (by omega)]; done) | (rw [if_neg (by omega), if_neg (by omega)]; done) | (rw [if_pos (by omega), if_pos (by omega)]; done) | (rw [if_pos (by omega), if_neg (by omega)]; done) | decide | (simp; omega)), x0⟩
set_option maxHeartbeats 16000000 in
set_option maxRecDepth 20000 in
theorem m_row {g : ab_H} (q : ab_sim p1_Sm p1_Hm g) (k : Int32) (t : Int32) (f : Int32) (n : Int32) : ab_go 999 ab_M_X10_row 0 [(0, .ref 82), (1, .int k), (2, .int t), (3, .int f), (4, .int n)] [] g (fun r g' => r = some (.int (an_row k t n)) ∧ p1_Y g g') := by
  have hz : g.1 = 120 := q.1.symm
  have x0 : p1_Y g g := ⟨q.1.symm, q.2.1.symm, rfl⟩
  refine go_s (pc' := 1) (lv' := [(0, .ref 82), (1, .int k), (2, .int t), (3, .int f), (4, .int n)]) (st' := [.int k]) rfl rfl rfl ?_
  refine go_i2l (v := Int32.toInt64 k) rfl rfl ?_
  refine go_lconst (v := 0) rfl (by decide) ?_
  refine go_ldc2 (v := 3) rfl (by decide) ?_
  refine go_cc rfl rfl rfl (lv0 := [(0, .long (Int32.toInt64 k)), (2, .long 0), (4, .long 3)]) rfl ?_
  refine go_s (pc' := 1) (lv' := [(0, .long (Int32.toInt64 k)), (2, .long 0), (4, .long 3)]) (st' := [.long (Int32.toInt64 k)]) rfl rfl rfl ?_
  refine go_s (pc' := 2) (lv' := [(0, .long (Int32.toInt64 k)), (2, .long 0), (4, .long 3)]) (st' := [.long 0, .long (Int32.toInt64 k)]) rfl rfl rfl ?_
  refine go_lc (v := lg_cmp (Int32.toInt64 k) 0) rfl rfl ?_
  refine go_ifl (tgt := 17) rfl (by decide) (fun c => ?_) (fun c => ?_)
  ·
    have c1 : k.toInt < 0 := by first | exact c | (rw [Int32.toInt_toInt64] at c; exact c) | (rw [Int32.toInt_toInt64, Int32.toInt_toInt64] at c; exact c)
    refine go_iconst (v := 0) rfl (by decide) ?_
    refine go_rz rfl rfl (by decide) ?_
    show ab_go 999 ab_M_X10_row 9 [(0, .ref 82), (1, .int k), (2, .int t), (3, .int f), (4, .int n)] [.int 0] g _
    refine go_ift (tgt := 37) rfl (by decide) (by decide) ?_
    refine go_iconst (v := (-1)) rfl (by decide) ?_
    refine go_ri rfl rfl ?_
    exact ⟨(by unfold an_row; first | (rw [if_pos (by omega)]; done) | (rw [if_neg (by omega)]; done) | (rw [if_neg (by omega), if_pos (by omega)]; done) | (rw [if_neg (by omega), if_neg (by omega)]; done) | (rw [if_pos (by omega), if_pos (by omega)]; done) | (rw [if_pos (by omega), if_neg (by omega)]; done) | decide | (simp; omega)), x0⟩
  ·
    have c2 : ¬ k.toInt < 0 := by first | exact c | (rw [Int32.toInt_toInt64] at c; exact c) | (rw [Int32.toInt_toInt64, Int32.toInt_toInt64] at c; exact c)
    refine go_s (pc' := 7) (lv' := [(0, .long (Int32.toInt64 k)), (2, .long 0), (4, .long 3)]) (st' := [.long (Int32.toInt64 k)]) rfl rfl rfl ?_
    refine go_s (pc' := 9) (lv' := [(0, .long (Int32.toInt64 k)), (2, .long 0), (4, .long 3)]) (st' := [.long 3, .long (Int32.toInt64 k)]) rfl rfl rfl ?_
    refine go_lc (v := lg_cmp (Int32.toInt64 k) 3) rfl rfl ?_
    refine go_ifl (tgt := 17) rfl (by decide) (fun c => ?_) (fun c => ?_)
    ·
      have c3 : 3 < k.toInt := by first | exact c | (rw [Int32.toInt_toInt64] at c; exact c) | (rw [Int32.toInt_toInt64, Int32.toInt_toInt64] at c; exact c)
      refine go_iconst (v := 0) rfl (by decide) ?_
      refine go_rz rfl rfl (by decide) ?_
      show ab_go 999 ab_M_X10_row 9 [(0, .ref 82), (1, .int k), (2, .int t), (3, .int f), (4, .int n)] [.int 0] g _
      refine go_ift (tgt := 37) rfl (by decide) (by decide) ?_
      refine go_iconst (v := (-1)) rfl (by decide) ?_
      refine go_ri rfl rfl ?_
      exact ⟨(by unfold an_row; first | (rw [if_pos (by omega)]; done) | (rw [if_neg (by omega)]; done) | (rw [if_neg (by omega), if_pos (by omega)]; done) | (rw [if_neg (by omega), if_neg (by omega)]; done) | (rw [if_pos (by omega), if_pos (by omega)]; done) | (rw [if_pos (by omega), if_neg (by omega)]; done) | decide | (simp; omega)), x0⟩
    ·
      have c4 : ¬ 3 < k.toInt := by first | exact c | (rw [Int32.toInt_toInt64] at c; exact c) | (rw [Int32.toInt_toInt64, Int32.toInt_toInt64] at c; exact c)
      refine go_iconst (v := 1) rfl (by decide) ?_
      refine go_goto (tgt := 18) rfl (by decide) ?_
      refine go_rz rfl rfl (by decide) ?_
      show ab_go 999 ab_M_X10_row 9 [(0, .ref 82), (1, .int k), (2, .int t), (3, .int f), (4, .int n)] [.int 1] g _
      refine go_iff rfl (by decide) ?_
      refine go_s (pc' := 13) (lv' := [(0, .ref 82), (1, .int k), (2, .int t), (3, .int f), (4, .int n)]) (st' := [.int t]) rfl rfl rfl ?_
      refine go_i2l (v := Int32.toInt64 t) rfl rfl ?_
      refine go_lconst (v := 0) rfl (by decide) ?_
      refine go_ldc2 (v := 2) rfl (by decide) ?_
      refine go_cc rfl rfl rfl (lv0 := [(0, .long (Int32.toInt64 t)), (2, .long 0), (4, .long 2)]) rfl ?_
      refine go_s (pc' := 1) (lv' := [(0, .long (Int32.toInt64 t)), (2, .long 0), (4, .long 2)]) (st' := [.long (Int32.toInt64 t)]) rfl rfl rfl ?_
      refine go_s (pc' := 2) (lv' := [(0, .long (Int32.toInt64 t)), (2, .long 0), (4, .long 2)]) (st' := [.long 0, .long (Int32.toInt64 t)]) rfl rfl rfl ?_
      refine go_lc (v := lg_cmp (Int32.toInt64 t) 0) rfl rfl ?_
      refine go_ifl (tgt := 17) rfl (by decide) (fun c => ?_) (fun c => ?_)
      ·
        have c5 : t.toInt < 0 := by first | exact c | (rw [Int32.toInt_toInt64] at c; exact c) | (rw [Int32.toInt_toInt64, Int32.toInt_toInt64] at c; exact c)
        refine go_iconst (v := 0) rfl (by decide) ?_
        refine go_rz rfl rfl (by decide) ?_
        show ab_go 999 ab_M_X10_row 21 [(0, .ref 82), (1, .int k), (2, .int t), (3, .int f), (4, .int n)] [.int 0] g _
        refine go_ift (tgt := 37) rfl (by decide) (by decide) ?_
        refine go_iconst (v := (-1)) rfl (by decide) ?_
        refine go_ri rfl rfl ?_
        exact ⟨(by unfold an_row; first | (rw [if_pos (by omega)]; done) | (rw [if_neg (by omega)]; done) | (rw [if_neg (by omega), if_pos (by omega)]; done) | (rw [if_neg (by omega), if_neg (by omega)]; done) | (rw [if_pos (by omega), if_pos (by omega)]; done) | (rw [if_pos (by omega), if_neg (by omega)]; done) | decide | (simp; omega)), x0⟩
      ·
        have c6 : ¬ t.toInt < 0 := by first | exact c | (rw [Int32.toInt_toInt64] at c; exact c) | (rw [Int32.toInt_toInt64, Int32.toInt_toInt64] at c; exact c)
        refine go_s (pc' := 7) (lv' := [(0, .long (Int32.toInt64 t)), (2, .long 0), (4, .long 2)]) (st' := [.long (Int32.toInt64 t)]) rfl rfl rfl ?_
        refine go_s (pc' := 9) (lv' := [(0, .long (Int32.toInt64 t)), (2, .long 0), (4, .long 2)]) (st' := [.long 2, .long (Int32.toInt64 t)]) rfl rfl rfl ?_
        refine go_lc (v := lg_cmp (Int32.toInt64 t) 2) rfl rfl ?_
        refine go_ifl (tgt := 17) rfl (by decide) (fun c => ?_) (fun c => ?_)
        ·
          have c7 : 2 < t.toInt := by first | exact c | (rw [Int32.toInt_toInt64] at c; exact c) | (rw [Int32.toInt_toInt64, Int32.toInt_toInt64] at c; exact c)
          refine go_iconst (v := 0) rfl (by decide) ?_
          refine go_rz rfl rfl (by decide) ?_
          show ab_go 999 ab_M_X10_row 21 [(0, .ref 82), (1, .int k), (2, .int t), (3, .int f), (4, .int n)] [.int 0] g _
          refine go_ift (tgt := 37) rfl (by decide) (by decide) ?_
          refine go_iconst (v := (-1)) rfl (by decide) ?_
          refine go_ri rfl rfl ?_
          exact ⟨(by unfold an_row; first | (rw [if_pos (by omega)]; done) | (rw [if_neg (by omega)]; done) | (rw [if_neg (by omega), if_pos (by omega)]; done) | (rw [if_neg (by omega), if_neg (by omega)]; done) | (rw [if_pos (by omega), if_pos (by omega)]; done) | (rw [if_pos (by omega), if_neg (by omega)]; done) | decide | (simp; omega)), x0⟩
        ·
          have c8 : ¬ 2 < t.toInt := by first | exact c | (rw [Int32.toInt_toInt64] at c; exact c) | (rw [Int32.toInt_toInt64, Int32.toInt_toInt64] at c; exact c)
          refine go_iconst (v := 1) rfl (by decide) ?_
          refine go_goto (tgt := 18) rfl (by decide) ?_
          refine go_rz rfl rfl (by decide) ?_
          show ab_go 999 ab_M_X10_row 21 [(0, .ref 82), (1, .int k), (2, .int t), (3, .int f), (4, .int n)] [.int 1] g _
          refine go_iff rfl (by decide) ?_
          refine go_s (pc' := 26) (lv' := [(0, .ref 82), (1, .int k), (2, .int t), (3, .int f), (4, .int n)]) (st' := [.int n]) rfl rfl rfl ?_
          refine go_i2l (v := Int32.toInt64 n) rfl rfl ?_
          refine go_lconst (v := 0) rfl (by decide) ?_
          refine go_ldc2 (v := 64) rfl (by decide) ?_
          refine go_cc rfl rfl rfl (lv0 := [(0, .long (Int32.toInt64 n)), (2, .long 0), (4, .long 64)]) rfl ?_
          refine go_s (pc' := 1) (lv' := [(0, .long (Int32.toInt64 n)), (2, .long 0), (4, .long 64)]) (st' := [.long (Int32.toInt64 n)]) rfl rfl rfl ?_
          refine go_s (pc' := 2) (lv' := [(0, .long (Int32.toInt64 n)), (2, .long 0), (4, .long 64)]) (st' := [.long 0, .long (Int32.toInt64 n)]) rfl rfl rfl ?_
          refine go_lc (v := lg_cmp (Int32.toInt64 n) 0) rfl rfl ?_
          refine go_ifl (tgt := 17) rfl (by decide) (fun c => ?_) (fun c => ?_)
          ·
            have c9 : n.toInt < 0 := by first | exact c | (rw [Int32.toInt_toInt64] at c; exact c) | (rw [Int32.toInt_toInt64, Int32.toInt_toInt64] at c; exact c)
            refine go_iconst (v := 0) rfl (by decide) ?_
            refine go_rz rfl rfl (by decide) ?_
            show ab_go 999 ab_M_X10_row 34 [(0, .ref 82), (1, .int k), (2, .int t), (3, .int f), (4, .int n)] [.int 0] g _
            refine go_iff rfl (by decide) ?_
            refine go_iconst (v := (-1)) rfl (by decide) ?_
            refine go_ri rfl rfl ?_
            exact ⟨(by unfold an_row; first | (rw [if_pos (by omega)]; done) | (rw [if_neg (by omega)]; done) | (rw [if_neg (by omega), if_pos (by omega)]; done) | (rw [if_neg (by omega), if_neg (by omega)]; done) | (rw [if_pos (by omega), if_pos (by omega)]; done) | (rw [if_pos (by omega), if_neg (by omega)]; done) | decide | (simp; omega)), x0⟩
          ·
            have c10 : ¬ n.toInt < 0 := by first | exact c | (rw [Int32.toInt_toInt64] at c; exact c) | (rw [Int32.toInt_toInt64, Int32.toInt_toInt64] at c; exact c)
            refine go_s (pc' := 7) (lv' := [(0, .long (Int32.toInt64 n)), (2, .long 0), (4, .long 64)]) (st' := [.long (Int32.toInt64 n)]) rfl rfl rfl ?_
            refine go_s (pc' := 9) (lv' := [(0, .long (Int32.toInt64 n)), (2, .long 0), (4, .long 64)]) (st' := [.long 64, .long (Int32.toInt64 n)]) rfl rfl rfl ?_
            refine go_lc (v := lg_cmp (Int32.toInt64 n) 64) rfl rfl ?_
            refine go_ifl (tgt := 17) rfl (by decide) (fun c => ?_) (fun c => ?_)
            ·
              have c11 : 64 < n.toInt := by first | exact c | (rw [Int32.toInt_toInt64] at c; exact c) | (rw [Int32.toInt_toInt64, Int32.toInt_toInt64] at c; exact c)
              refine go_iconst (v := 0) rfl (by decide) ?_
              refine go_rz rfl rfl (by decide) ?_
              show ab_go 999 ab_M_X10_row 34 [(0, .ref 82), (1, .int k), (2, .int t), (3, .int f), (4, .int n)] [.int 0] g _
              refine go_iff rfl (by decide) ?_
              refine go_iconst (v := (-1)) rfl (by decide) ?_
              refine go_ri rfl rfl ?_
              exact ⟨(by unfold an_row; first | (rw [if_pos (by omega)]; done) | (rw [if_neg (by omega)]; done) | (rw [if_neg (by omega), if_pos (by omega)]; done) | (rw [if_neg (by omega), if_neg (by omega)]; done) | (rw [if_pos (by omega), if_pos (by omega)]; done) | (rw [if_pos (by omega), if_neg (by omega)]; done) | decide | (simp; omega)), x0⟩
            ·
              have c12 : ¬ 64 < n.toInt := by first | exact c | (rw [Int32.toInt_toInt64] at c; exact c) | (rw [Int32.toInt_toInt64, Int32.toInt_toInt64] at c; exact c)
              refine go_iconst (v := 1) rfl (by decide) ?_
              refine go_goto (tgt := 18) rfl (by decide) ?_
              refine go_rz rfl rfl (by decide) ?_
              show ab_go 999 ab_M_X10_row 34 [(0, .ref 82), (1, .int k), (2, .int t), (3, .int f), (4, .int n)] [.int 1] g _
              refine go_ift (tgt := 39) rfl (by decide) (by decide) ?_
              refine go_s (pc' := 40) (lv' := [(0, .ref 82), (1, .int k), (2, .int t), (3, .int f), (4, .int n)]) (st' := [.ref 82]) rfl rfl rfl ?_
              refine go_get (v := .ref 117) rfl (ab_fo q p1_o_p1_Hm_82 (by decide)) rfl ?_
              refine go_s (pc' := 44) (lv' := [(0, .ref 82), (1, .int k), (2, .int t), (3, .int f), (4, .int n)]) (st' := [.int k, .ref 117]) rfl rfl rfl ?_
              by_cases c13 : k.toInt = 0
              ·
                obtain rfl : k = 0 := ab_i0 0 (by have e : (0 : Int32).toInt = 0 := rfl; omega)
                obtain ⟨f14, h15, vh15⟩ := ab_fa q p1_a_p1_Hm_117_0
                refine go_ial (v := (-4)) rfl h15 (by decide) vh15 ?_
                refine go_s (pc' := 46) (lv' := [(0, .ref 82), (1, .int 0), (2, .int t), (3, .int f), (4, .int n)]) (st' := [.int t, .int (-4)]) rfl rfl rfl ?_
                refine go_ic (tgt := 68) rfl (by decide) (fun c => ?_) (fun c => ?_)
                ·
                  have c16 : (-4) = t.toInt := c
                  exfalso; omega
                ·
                  have c17 : ¬ (-4) = t.toInt := c
                  refine go_s (pc' := 50) (lv' := [(0, .ref 82), (1, .int 0), (2, .int t), (3, .int f), (4, .int n)]) (st' := [.ref 82]) rfl rfl rfl ?_
                  refine go_get (v := .ref 117) rfl (ab_fo q p1_o_p1_Hm_82 (by decide)) rfl ?_
                  refine go_s (pc' := 54) (lv' := [(0, .ref 82), (1, .int 0), (2, .int t), (3, .int f), (4, .int n)]) (st' := [.int 0, .ref 117]) rfl rfl rfl ?_
                  obtain ⟨f18, h19, vh19⟩ := ab_fa q p1_a_p1_Hm_117_0
                  refine go_ial (v := (-4)) rfl h19 (by decide) vh19 ?_
                  refine go_bipush (v := (-4)) rfl (by decide) ?_
                  refine go_icf rfl (by decide) ?_
                  refine go_bipush (v := (-11)) rfl (by decide) ?_
                  refine go_goto (tgt := 67) rfl (by decide) ?_
                  refine go_ri rfl rfl ?_
                  exact ⟨(by unfold an_row; first | (rw [if_pos (by omega)]; done) | (rw [if_neg (by omega)]; done) | (rw [if_neg (by omega), if_pos (by omega)]; done) | (rw [if_neg (by omega), if_neg (by omega)]; done) | (rw [if_pos (by omega), if_pos (by omega)]; done) | (rw [if_pos (by omega), if_neg (by omega)]; done) | decide | (simp; omega)), x0⟩
              ·
                by_cases c20 : k.toInt = 1
                ·
                  obtain rfl : k = 1 := ab_i0 1 (by have e : (1 : Int32).toInt = 1 := rfl; omega)
                  obtain ⟨f21, h22, vh22⟩ := ab_fa q p1_a_p1_Hm_117_1
                  refine go_ial (v := (-4)) rfl h22 (by decide) vh22 ?_
                  refine go_s (pc' := 46) (lv' := [(0, .ref 82), (1, .int 1), (2, .int t), (3, .int f), (4, .int n)]) (st' := [.int t, .int (-4)]) rfl rfl rfl ?_
                  refine go_ic (tgt := 68) rfl (by decide) (fun c => ?_) (fun c => ?_)
                  ·
                    have c23 : (-4) = t.toInt := c
                    exfalso; omega
                  ·
                    have c24 : ¬ (-4) = t.toInt := c
                    refine go_s (pc' := 50) (lv' := [(0, .ref 82), (1, .int 1), (2, .int t), (3, .int f), (4, .int n)]) (st' := [.ref 82]) rfl rfl rfl ?_
                    refine go_get (v := .ref 117) rfl (ab_fo q p1_o_p1_Hm_82 (by decide)) rfl ?_
                    refine go_s (pc' := 54) (lv' := [(0, .ref 82), (1, .int 1), (2, .int t), (3, .int f), (4, .int n)]) (st' := [.int 1, .ref 117]) rfl rfl rfl ?_
                    obtain ⟨f25, h26, vh26⟩ := ab_fa q p1_a_p1_Hm_117_1
                    refine go_ial (v := (-4)) rfl h26 (by decide) vh26 ?_
                    refine go_bipush (v := (-4)) rfl (by decide) ?_
                    refine go_icf rfl (by decide) ?_
                    refine go_bipush (v := (-11)) rfl (by decide) ?_
                    refine go_goto (tgt := 67) rfl (by decide) ?_
                    refine go_ri rfl rfl ?_
                    exact ⟨(by unfold an_row; first | (rw [if_pos (by omega)]; done) | (rw [if_neg (by omega)]; done) | (rw [if_neg (by omega), if_pos (by omega)]; done) | (rw [if_neg (by omega), if_neg (by omega)]; done) | (rw [if_pos (by omega), if_pos (by omega)]; done) | (rw [if_pos (by omega), if_neg (by omega)]; done) | decide | (simp; omega)), x0⟩
                ·
                  by_cases c27 : k.toInt = 2
                  ·
                    obtain rfl : k = 2 := ab_i0 2 (by have e : (2 : Int32).toInt = 2 := rfl; omega)
                    obtain ⟨f28, h29, vh29⟩ := ab_fa q p1_a_p1_Hm_117_2
                    refine go_ial (v := (-4)) rfl h29 (by decide) vh29 ?_
                    refine go_s (pc' := 46) (lv' := [(0, .ref 82), (1, .int 2), (2, .int t), (3, .int f), (4, .int n)]) (st' := [.int t, .int (-4)]) rfl rfl rfl ?_
                    refine go_ic (tgt := 68) rfl (by decide) (fun c => ?_) (fun c => ?_)
                    ·
                      have c30 : (-4) = t.toInt := c
                      exfalso; omega
                    ·
                      have c31 : ¬ (-4) = t.toInt := c
                      refine go_s (pc' := 50) (lv' := [(0, .ref 82), (1, .int 2), (2, .int t), (3, .int f), (4, .int n)]) (st' := [.ref 82]) rfl rfl rfl ?_
                      refine go_get (v := .ref 117) rfl (ab_fo q p1_o_p1_Hm_82 (by decide)) rfl ?_
                      refine go_s (pc' := 54) (lv' := [(0, .ref 82), (1, .int 2), (2, .int t), (3, .int f), (4, .int n)]) (st' := [.int 2, .ref 117]) rfl rfl rfl ?_
                      obtain ⟨f32, h33, vh33⟩ := ab_fa q p1_a_p1_Hm_117_2
                      refine go_ial (v := (-4)) rfl h33 (by decide) vh33 ?_
                      refine go_bipush (v := (-4)) rfl (by decide) ?_
                      refine go_icf rfl (by decide) ?_
                      refine go_bipush (v := (-11)) rfl (by decide) ?_
                      refine go_goto (tgt := 67) rfl (by decide) ?_
                      refine go_ri rfl rfl ?_
                      exact ⟨(by unfold an_row; first | (rw [if_pos (by omega)]; done) | (rw [if_neg (by omega)]; done) | (rw [if_neg (by omega), if_pos (by omega)]; done) | (rw [if_neg (by omega), if_neg (by omega)]; done) | (rw [if_pos (by omega), if_pos (by omega)]; done) | (rw [if_pos (by omega), if_neg (by omega)]; done) | decide | (simp; omega)), x0⟩
                  ·
                    obtain rfl : k = 3 := ab_i0 3 (by have e : (3 : Int32).toInt = 3 := rfl; omega)
                    obtain ⟨f34, h35, vh35⟩ := ab_fa q p1_a_p1_Hm_117_3
                    refine go_ial (v := (-4)) rfl h35 (by decide) vh35 ?_
                    refine go_s (pc' := 46) (lv' := [(0, .ref 82), (1, .int 3), (2, .int t), (3, .int f), (4, .int n)]) (st' := [.int t, .int (-4)]) rfl rfl rfl ?_
                    refine go_ic (tgt := 68) rfl (by decide) (fun c => ?_) (fun c => ?_)
                    ·
                      have c36 : (-4) = t.toInt := c
                      exfalso; omega
                    ·
                      have c37 : ¬ (-4) = t.toInt := c
                      refine go_s (pc' := 50) (lv' := [(0, .ref 82), (1, .int 3), (2, .int t), (3, .int f), (4, .int n)]) (st' := [.ref 82]) rfl rfl rfl ?_
                      refine go_get (v := .ref 117) rfl (ab_fo q p1_o_p1_Hm_82 (by decide)) rfl ?_
                      refine go_s (pc' := 54) (lv' := [(0, .ref 82), (1, .int 3), (2, .int t), (3, .int f), (4, .int n)]) (st' := [.int 3, .ref 117]) rfl rfl rfl ?_
                      obtain ⟨f38, h39, vh39⟩ := ab_fa q p1_a_p1_Hm_117_3
                      refine go_ial (v := (-4)) rfl h39 (by decide) vh39 ?_
                      refine go_bipush (v := (-4)) rfl (by decide) ?_
                      refine go_icf rfl (by decide) ?_
                      refine go_bipush (v := (-11)) rfl (by decide) ?_
                      refine go_goto (tgt := 67) rfl (by decide) ?_
                      refine go_ri rfl rfl ?_
                      exact ⟨(by unfold an_row; first | (rw [if_pos (by omega)]; done) | (rw [if_neg (by omega)]; done) | (rw [if_neg (by omega), if_pos (by omega)]; done) | (rw [if_neg (by omega), if_neg (by omega)]; done) | (rw [if_pos (by omega), if_pos (by omega)]; done) | (rw [if_pos (by omega), if_neg (by omega)]; done) | decide | (simp; omega)), x0⟩
set_option maxHeartbeats 16000000 in
set_option maxRecDepth 20000 in
theorem m_count {g : ab_H} (q : ab_sim p1_Sm p1_Hm g) (w : Int32) : ab_go 999 ab_M_X10_count 0 [(0, .ref 82), (1, .int w)] [] g (fun r g' => r = some (.int (an_count w)) ∧ p1_Y g g') := by
  have hz : g.1 = 120 := q.1.symm
  have x0 : p1_Y g g := ⟨q.1.symm, q.2.1.symm, rfl⟩
  refine go_s (pc' := 1) (lv' := [(0, .ref 82), (1, .int w)]) (st' := [.int w]) rfl rfl rfl ?_
  by_cases c1 : w.toInt = 0
  ·
    refine go_tin (tgt := 44) 0 rfl c1 (by decide) rfl (by decide) ?_
    refine go_s (pc' := 45) (lv' := [(0, .ref 82), (1, .int w)]) (st' := [.ref 82]) rfl rfl rfl ?_
    refine go_get (v := .int 0) rfl (ab_fo q p1_o_p1_Hm_82 (by decide)) rfl ?_
    refine go_ri rfl rfl ?_
    exact ⟨(by unfold an_count; first | (rw [if_pos (by omega)]; done) | (rw [if_neg (by omega)]; done) | (rw [if_neg (by omega), if_pos (by omega)]; done) | (rw [if_neg (by omega), if_neg (by omega)]; done) | (rw [if_pos (by omega), if_pos (by omega)]; done) | (rw [if_pos (by omega), if_neg (by omega)]; done) | decide | (simp; omega)), x0⟩
  ·
    by_cases c2 : w.toInt = 1
    ·
      refine go_tin (tgt := 49) 1 rfl c2 (by decide) rfl (by decide) ?_
      refine go_s (pc' := 50) (lv' := [(0, .ref 82), (1, .int w)]) (st' := [.ref 82]) rfl rfl rfl ?_
      refine go_get (v := .int 0) rfl (ab_fo q p1_o_p1_Hm_82 (by decide)) rfl ?_
      refine go_ri rfl rfl ?_
      exact ⟨(by unfold an_count; first | (rw [if_pos (by omega)]; done) | (rw [if_neg (by omega)]; done) | (rw [if_neg (by omega), if_pos (by omega)]; done) | (rw [if_neg (by omega), if_neg (by omega)]; done) | (rw [if_pos (by omega), if_pos (by omega)]; done) | (rw [if_pos (by omega), if_neg (by omega)]; done) | decide | (simp; omega)), x0⟩
    ·
      by_cases c3 : w.toInt = 2
      ·
        refine go_tin (tgt := 54) 2 rfl c3 (by decide) rfl (by decide) ?_
        refine go_s (pc' := 55) (lv' := [(0, .ref 82), (1, .int w)]) (st' := [.ref 82]) rfl rfl rfl ?_
        refine go_get (v := .int 0) rfl (ab_fo q p1_o_p1_Hm_82 (by decide)) rfl ?_
        refine go_ri rfl rfl ?_
        exact ⟨(by unfold an_count; first | (rw [if_pos (by omega)]; done) | (rw [if_neg (by omega)]; done) | (rw [if_neg (by omega), if_pos (by omega)]; done) | (rw [if_neg (by omega), if_neg (by omega)]; done) | (rw [if_pos (by omega), if_pos (by omega)]; done) | (rw [if_pos (by omega), if_neg (by omega)]; done) | decide | (simp; omega)), x0⟩
      ·
        by_cases c4 : w.toInt = 3
        ·
          refine go_tin (tgt := 59) 3 rfl c4 (by decide) rfl (by decide) ?_
          refine go_s (pc' := 60) (lv' := [(0, .ref 82), (1, .int w)]) (st' := [.ref 82]) rfl rfl rfl ?_
          refine go_get (v := .int 0) rfl (ab_fo q p1_o_p1_Hm_82 (by decide)) rfl ?_
          refine go_c rfl rfl rfl (lv0 := [(0, .int 0)]) rfl (go_sim p1_R37 q) (fun r0 g5 hr => ?_)
          obtain ⟨rfl, z8, w0, q6, f0⟩ := hr
          have x7 := x0.next f0 z8 w0
          show ab_go 999 ab_M_X10_count 66 [(0, .ref 82), (1, .int w)] [.int 0] g5 _
          refine go_ri rfl rfl ?_
          exact ⟨(by unfold an_count; first | (rw [if_pos (by omega)]; done) | (rw [if_neg (by omega)]; done) | (rw [if_neg (by omega), if_pos (by omega)]; done) | (rw [if_neg (by omega), if_neg (by omega)]; done) | (rw [if_pos (by omega), if_pos (by omega)]; done) | (rw [if_pos (by omega), if_neg (by omega)]; done) | decide | (simp; omega)), x7⟩
        ·
          by_cases c9 : w.toInt = 4
          ·
            refine go_tin (tgt := 67) 4 rfl c9 (by decide) rfl (by decide) ?_
            refine go_s (pc' := 68) (lv' := [(0, .ref 82), (1, .int w)]) (st' := [.ref 82]) rfl rfl rfl ?_
            refine go_get (v := .int 0) rfl (ab_fo q p1_o_p1_Hm_82 (by decide)) rfl ?_
            refine go_ri rfl rfl ?_
            exact ⟨(by unfold an_count; first | (rw [if_pos (by omega)]; done) | (rw [if_neg (by omega)]; done) | (rw [if_neg (by omega), if_pos (by omega)]; done) | (rw [if_neg (by omega), if_neg (by omega)]; done) | (rw [if_pos (by omega), if_pos (by omega)]; done) | (rw [if_pos (by omega), if_neg (by omega)]; done) | decide | (simp; omega)), x0⟩
          ·
            by_cases c10 : w.toInt = 5
            ·
              refine go_tin (tgt := 72) 5 rfl c10 (by decide) rfl (by decide) ?_
              refine go_s (pc' := 73) (lv' := [(0, .ref 82), (1, .int w)]) (st' := [.ref 82]) rfl rfl rfl ?_
              refine go_get (v := .int 0) rfl (ab_fo q p1_o_p1_Hm_82 (by decide)) rfl ?_
              refine go_ri rfl rfl ?_
              exact ⟨(by unfold an_count; first | (rw [if_pos (by omega)]; done) | (rw [if_neg (by omega)]; done) | (rw [if_neg (by omega), if_pos (by omega)]; done) | (rw [if_neg (by omega), if_neg (by omega)]; done) | (rw [if_pos (by omega), if_pos (by omega)]; done) | (rw [if_pos (by omega), if_neg (by omega)]; done) | decide | (simp; omega)), x0⟩
            ·
              by_cases c11 : w.toInt = 6
              ·
                refine go_tin (tgt := 77) 6 rfl c11 (by decide) rfl (by decide) ?_
                refine go_s (pc' := 78) (lv' := [(0, .ref 82), (1, .int w)]) (st' := [.ref 82]) rfl rfl rfl ?_
                refine go_get (v := .ref 117) rfl (ab_fo q p1_o_p1_Hm_82 (by decide)) rfl ?_
                refine go_iconst (v := 0) rfl (by decide) ?_
                obtain ⟨f12, h13, vh13⟩ := ab_fa q p1_a_p1_Hm_117_0
                refine go_ial (v := (-4)) rfl h13 (by decide) vh13 ?_
                refine go_bipush (v := (-4)) rfl (by decide) ?_
                refine go_icf rfl (by decide) ?_
                refine go_bipush (v := (-4)) rfl (by decide) ?_
                refine go_goto (tgt := 99) rfl (by decide) ?_
                refine go_ri rfl rfl ?_
                exact ⟨(by unfold an_count; first | (rw [if_pos (by omega)]; done) | (rw [if_neg (by omega)]; done) | (rw [if_neg (by omega), if_pos (by omega)]; done) | (rw [if_neg (by omega), if_neg (by omega)]; done) | (rw [if_pos (by omega), if_pos (by omega)]; done) | (rw [if_pos (by omega), if_neg (by omega)]; done) | decide | (simp; omega)), x0⟩
              ·
                refine go_tout (tgt := 100) rfl (by omega) (by decide) ?_
                refine go_iconst (v := (-1)) rfl (by decide) ?_
                refine go_ri rfl rfl ?_
                exact ⟨(by unfold an_count; first | (rw [if_pos (by omega)]; done) | (rw [if_neg (by omega)]; done) | (rw [if_neg (by omega), if_pos (by omega)]; done) | (rw [if_neg (by omega), if_neg (by omega)]; done) | (rw [if_pos (by omega), if_pos (by omega)]; done) | (rw [if_pos (by omega), if_neg (by omega)]; done) | decide | (simp; omega)), x0⟩
