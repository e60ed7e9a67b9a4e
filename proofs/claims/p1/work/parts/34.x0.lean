set_option maxHeartbeats 16000000 in
set_option maxRecDepth 20000 in
theorem x_feed {g : ab_H} (q : ab_sim p1_Sx p1_Hx g) (v : Int64) : ab_go 999 ab_M_X9_feed 0 [(0, .ref 1), (1, .long v)] [] g (fun r g' => r = some (.int 8) ∧ p1_X g g') := by
  have hz : g.1 = 120 := q.1.symm
  have x0 : p1_X g g := ⟨q.1.symm, q.2.1.symm, fun _ _ => rfl⟩
  refine go_s (pc' := 1) (lv' := [(0, .ref 1), (1, .long v)]) (st' := [.ref 1]) rfl rfl rfl ?_
  refine go_get (v := .ref 2) rfl (ab_fo q p1_o_p1_Hx_1 (by decide)) rfl ?_
  refine go_s (pc' := 5) (lv' := [(0, .ref 1), (1, .long v)]) (st' := [.long v, .ref 2]) rfl rfl rfl ?_
  refine go_cc rfl rfl (ab_cal_v (As := [.long v]) (rest := []) rfl rfl rfl (ab_fo q p1_o_p1_Hx_2 (by decide)) rfl rfl rfl rfl) (lv0 := [(0, .ref 2), (1, .long v)]) rfl ?_
  refine go_s (pc' := 1) (lv' := [(0, .ref 2), (1, .long v)]) (st' := [.ref 2]) rfl rfl rfl ?_
  refine go_get (v := .int 0) rfl (ab_fo q p1_o_p1_Hx_2 (by decide)) rfl ?_
  refine go_bipush (v := 8) rfl (by decide) ?_
  refine go_b2 (v := 8) rfl rfl (fun _ => rfl) (by decide) ?_
  refine go_sipush (v := 240) rfl (by decide) ?_
  refine go_ict (tgt := 15) rfl (by decide) (by decide) ?_
  refine go_bipush (v := 56) rfl (by decide) ?_
  refine go_s (pc' := 18) (lv' := [(3, .int 56), (0, .ref 2), (1, .long v)]) (st' := []) rfl rfl rfl ?_
  refine go_s (pc' := 19) (lv' := [(3, .int 56), (0, .ref 2), (1, .long v)]) (st' := [.int 56]) rfl rfl rfl ?_
  refine go_iff rfl (by decide) ?_
  refine go_s (pc' := 23) (lv' := [(3, .int 56), (0, .ref 2), (1, .long v)]) (st' := [.ref 2]) rfl rfl rfl ?_
  refine go_get (v := .ref 3) rfl (ab_fo q p1_o_p1_Hx_2 (by decide)) rfl ?_
  refine go_s (pc' := 27) (lv' := [(3, .int 56), (0, .ref 2), (1, .long v)]) (st' := [.ref 2, .ref 3]) rfl rfl rfl ?_
  refine go_s (pc' := 28) (lv' := [(3, .int 56), (0, .ref 2), (1, .long v)]) (st' := [.ref 2, .ref 2, .ref 3]) rfl rfl rfl ?_
  refine go_get (v := .int 0) rfl (ab_fo q p1_o_p1_Hx_2 (by decide)) rfl ?_
  refine go_s (pc' := 32) (lv' := [(3, .int 56), (0, .ref 2), (1, .long v)]) (st' := [.int 0, .ref 2, .int 0, .ref 3]) rfl rfl rfl ?_
  refine go_iconst (v := 1) rfl (by decide) ?_
  refine go_b2 (v := 1) rfl rfl (fun _ => rfl) (by decide) ?_
  refine go_put (v := .int 1) rfl (ab_fo q p1_o_p1_Hx_2 (by decide)) (Nat.le_of_ble_eq_true rfl) (by decide) ?_
  show ab_go 998 ab_M_X4_append 37 [(3, .int 56), (0, .ref 2), (1, .long v)] [.int 0, .ref 3] (ab_wr g 2 (.inr (4, [.ref 3, .int 1, .int 0, .int 0, .int 0, .int 0, .int 0, .int 0, .null]))) _
  refine go_s (pc' := 38) (lv' := [(3, .int 56), (0, .ref 2), (1, .long v)]) (st' := [.long v, .int 0, .ref 3]) rfl rfl rfl ?_
  refine go_s (pc' := 39) (lv' := [(3, .int 56), (0, .ref 2), (1, .long v)]) (st' := [.int 56, .long v, .int 0, .ref 3]) rfl rfl rfl ?_
  obtain ⟨w1, ew1⟩ : ∃ w : Int64, (v >>> (Int32.toInt64 56 &&& 63)) = w := ⟨_, rfl⟩
  refine go_ls (v := w1) rfl rfl (fun _ => rfl) ew1 ?_
  obtain ⟨w2, ew2⟩ : ∃ w : Int32, Int64.toInt32 w1 = w := ⟨_, rfl⟩
  refine go_l2i (v := w2) rfl ew2 ?_
  obtain ⟨w3, ew3⟩ : ∃ w : Int32, (Int32.toInt8 w2).toInt32 = w := ⟨_, rfl⟩
  refine go_b1 (v := w3) rfl rfl (fun _ => rfl) ew3 ?_
  obtain ⟨f4, h5, vh5⟩ := ab_fa q p1_a_p1_Hx_3_0
  refine go_bas rfl (by rw [ab_rd_other (by decide)]; exact h5) (by decide) (by decide) ?_
  generalize upd f4 (Int32.toNatClampNeg 0) (vp_nar .byte w3) = f6
  show ab_go 998 ab_M_X4_append 43 [(3, .int 56), (0, .ref 2), (1, .long v)] [] (ab_wr (ab_wr g 2 (.inr (4, [.ref 3, .int 1, .int 0, .int 0, .int 0, .int 0, .int 0, .int 0, .null]))) 3 (.inl (1, 240, .inl f6))) _
  refine go_s (pc' := 46) (lv' := [(3, .int 48), (0, .ref 2), (1, .long v)]) (st' := []) rfl rfl rfl ?_
  refine go_goto (tgt := 18) rfl (by decide) ?_
  refine go_s (pc' := 19) (lv' := [(3, .int 48), (0, .ref 2), (1, .long v)]) (st' := [.int 48]) rfl rfl rfl ?_
  refine go_iff rfl (by decide) ?_
  refine go_s (pc' := 23) (lv' := [(3, .int 48), (0, .ref 2), (1, .long v)]) (st' := [.ref 2]) rfl rfl rfl ?_
  refine go_get (v := .ref 3) rfl (by rw [ab_rd_other (by decide)]; exact ab_rd_self (by show 2 < g.1; rw [hz]; decide)) rfl ?_
  refine go_s (pc' := 27) (lv' := [(3, .int 48), (0, .ref 2), (1, .long v)]) (st' := [.ref 2, .ref 3]) rfl rfl rfl ?_
  refine go_s (pc' := 28) (lv' := [(3, .int 48), (0, .ref 2), (1, .long v)]) (st' := [.ref 2, .ref 2, .ref 3]) rfl rfl rfl ?_
  refine go_get (v := .int 1) rfl (by rw [ab_rd_other (by decide)]; exact ab_rd_self (by show 2 < g.1; rw [hz]; decide)) rfl ?_
  refine go_s (pc' := 32) (lv' := [(3, .int 48), (0, .ref 2), (1, .long v)]) (st' := [.int 1, .ref 2, .int 1, .ref 3]) rfl rfl rfl ?_
  refine go_iconst (v := 1) rfl (by decide) ?_
  refine go_b2 (v := 2) rfl rfl (fun _ => rfl) (by decide) ?_
  refine go_put (v := .int 2) rfl (by rw [ab_rd_other (by decide)]; exact ab_rd_self (by show 2 < g.1; rw [hz]; decide)) (Nat.le_of_ble_eq_true rfl) (by decide) ?_
  show ab_go 998 ab_M_X4_append 37 [(3, .int 48), (0, .ref 2), (1, .long v)] [.int 1, .ref 3] (ab_wr (ab_wr (ab_wr g 2 (.inr (4, [.ref 3, .int 1, .int 0, .int 0, .int 0, .int 0, .int 0, .int 0, .null]))) 3 (.inl (1, 240, .inl f6))) 2 (.inr (4, [.ref 3, .int 2, .int 0, .int 0, .int 0, .int 0, .int 0, .int 0, .null]))) _
  refine go_s (pc' := 38) (lv' := [(3, .int 48), (0, .ref 2), (1, .long v)]) (st' := [.long v, .int 1, .ref 3]) rfl rfl rfl ?_
  refine go_s (pc' := 39) (lv' := [(3, .int 48), (0, .ref 2), (1, .long v)]) (st' := [.int 48, .long v, .int 1, .ref 3]) rfl rfl rfl ?_
  obtain ⟨w7, ew7⟩ : ∃ w : Int64, (v >>> (Int32.toInt64 48 &&& 63)) = w := ⟨_, rfl⟩
  refine go_ls (v := w7) rfl rfl (fun _ => rfl) ew7 ?_
  obtain ⟨w8, ew8⟩ : ∃ w : Int32, Int64.toInt32 w7 = w := ⟨_, rfl⟩
  refine go_l2i (v := w8) rfl ew8 ?_
  obtain ⟨w9, ew9⟩ : ∃ w : Int32, (Int32.toInt8 w8).toInt32 = w := ⟨_, rfl⟩
  refine go_b1 (v := w9) rfl rfl (fun _ => rfl) ew9 ?_
  refine go_bas rfl (by rw [ab_rd_other (by decide)]; exact ab_rd_self (by show 3 < g.1; rw [hz]; decide)) (by decide) (by decide) ?_
  generalize upd f6 (Int32.toNatClampNeg 1) (vp_nar .byte w9) = f10
  show ab_go 998 ab_M_X4_append 43 [(3, .int 48), (0, .ref 2), (1, .long v)] [] (ab_wr (ab_wr (ab_wr (ab_wr g 2 (.inr (4, [.ref 3, .int 1, .int 0, .int 0, .int 0, .int 0, .int 0, .int 0, .null]))) 3 (.inl (1, 240, .inl f6))) 2 (.inr (4, [.ref 3, .int 2, .int 0, .int 0, .int 0, .int 0, .int 0, .int 0, .null]))) 3 (.inl (1, 240, .inl f10))) _
  refine go_s (pc' := 46) (lv' := [(3, .int 40), (0, .ref 2), (1, .long v)]) (st' := []) rfl rfl rfl ?_
  refine go_goto (tgt := 18) rfl (by decide) ?_
  refine go_s (pc' := 19) (lv' := [(3, .int 40), (0, .ref 2), (1, .long v)]) (st' := [.int 40]) rfl rfl rfl ?_
  refine go_iff rfl (by decide) ?_
  refine go_s (pc' := 23) (lv' := [(3, .int 40), (0, .ref 2), (1, .long v)]) (st' := [.ref 2]) rfl rfl rfl ?_
  refine go_get (v := .ref 3) rfl (by rw [ab_rd_other (by decide)]; exact ab_rd_self (by show 2 < g.1; rw [hz]; decide)) rfl ?_
  refine go_s (pc' := 27) (lv' := [(3, .int 40), (0, .ref 2), (1, .long v)]) (st' := [.ref 2, .ref 3]) rfl rfl rfl ?_
  refine go_s (pc' := 28) (lv' := [(3, .int 40), (0, .ref 2), (1, .long v)]) (st' := [.ref 2, .ref 2, .ref 3]) rfl rfl rfl ?_
  refine go_get (v := .int 2) rfl (by rw [ab_rd_other (by decide)]; exact ab_rd_self (by show 2 < g.1; rw [hz]; decide)) rfl ?_
  refine go_s (pc' := 32) (lv' := [(3, .int 40), (0, .ref 2), (1, .long v)]) (st' := [.int 2, .ref 2, .int 2, .ref 3]) rfl rfl rfl ?_
  refine go_iconst (v := 1) rfl (by decide) ?_
  refine go_b2 (v := 3) rfl rfl (fun _ => rfl) (by decide) ?_
  refine go_put (v := .int 3) rfl (by rw [ab_rd_other (by decide)]; exact ab_rd_self (by show 2 < g.1; rw [hz]; decide)) (Nat.le_of_ble_eq_true rfl) (by decide) ?_
  show ab_go 998 ab_M_X4_append 37 [(3, .int 40), (0, .ref 2), (1, .long v)] [.int 2, .ref 3] (ab_wr (ab_wr (ab_wr (ab_wr (ab_wr g 2 (.inr (4, [.ref 3, .int 1, .int 0, .int 0, .int 0, .int 0, .int 0, .int 0, .null]))) 3 (.inl (1, 240, .inl f6))) 2 (.inr (4, [.ref 3, .int 2, .int 0, .int 0, .int 0, .int 0, .int 0, .int 0, .null]))) 3 (.inl (1, 240, .inl f10))) 2 (.inr (4, [.ref 3, .int 3, .int 0, .int 0, .int 0, .int 0, .int 0, .int 0, .null]))) _
  refine go_s (pc' := 38) (lv' := [(3, .int 40), (0, .ref 2), (1, .long v)]) (st' := [.long v, .int 2, .ref 3]) rfl rfl rfl ?_
  refine go_s (pc' := 39) (lv' := [(3, .int 40), (0, .ref 2), (1, .long v)]) (st' := [.int 40, .long v, .int 2, .ref 3]) rfl rfl rfl ?_
  obtain ⟨w11, ew11⟩ : ∃ w : Int64, (v >>> (Int32.toInt64 40 &&& 63)) = w := ⟨_, rfl⟩
  refine go_ls (v := w11) rfl rfl (fun _ => rfl) ew11 ?_
  obtain ⟨w12, ew12⟩ : ∃ w : Int32, Int64.toInt32 w11 = w := ⟨_, rfl⟩
  refine go_l2i (v := w12) rfl ew12 ?_
  obtain ⟨w13, ew13⟩ : ∃ w : Int32, (Int32.toInt8 w12).toInt32 = w := ⟨_, rfl⟩
  refine go_b1 (v := w13) rfl rfl (fun _ => rfl) ew13 ?_
  refine go_bas rfl (by rw [ab_rd_other (by decide)]; exact ab_rd_self (by show 3 < g.1; rw [hz]; decide)) (by decide) (by decide) ?_
  generalize upd f10 (Int32.toNatClampNeg 2) (vp_nar .byte w13) = f14
  show ab_go 998 ab_M_X4_append 43 [(3, .int 40), (0, .ref 2), (1, .long v)] [] (ab_wr (ab_wr (ab_wr (ab_wr (ab_wr (ab_wr g 2 (.inr (4, [.ref 3, .int 1, .int 0, .int 0, .int 0, .int 0, .int 0, .int 0, .null]))) 3 (.inl (1, 240, .inl f6))) 2 (.inr (4, [.ref 3, .int 2, .int 0, .int 0, .int 0, .int 0, .int 0, .int 0, .null]))) 3 (.inl (1, 240, .inl f10))) 2 (.inr (4, [.ref 3, .int 3, .int 0, .int 0, .int 0, .int 0, .int 0, .int 0, .null]))) 3 (.inl (1, 240, .inl f14))) _
  refine go_s (pc' := 46) (lv' := [(3, .int 32), (0, .ref 2), (1, .long v)]) (st' := []) rfl rfl rfl ?_
  refine go_goto (tgt := 18) rfl (by decide) ?_
  refine go_s (pc' := 19) (lv' := [(3, .int 32), (0, .ref 2), (1, .long v)]) (st' := [.int 32]) rfl rfl rfl ?_
  refine go_iff rfl (by decide) ?_
  refine go_s (pc' := 23) (lv' := [(3, .int 32), (0, .ref 2), (1, .long v)]) (st' := [.ref 2]) rfl rfl rfl ?_
  refine go_get (v := .ref 3) rfl (by rw [ab_rd_other (by decide)]; exact ab_rd_self (by show 2 < g.1; rw [hz]; decide)) rfl ?_
  refine go_s (pc' := 27) (lv' := [(3, .int 32), (0, .ref 2), (1, .long v)]) (st' := [.ref 2, .ref 3]) rfl rfl rfl ?_
  refine go_s (pc' := 28) (lv' := [(3, .int 32), (0, .ref 2), (1, .long v)]) (st' := [.ref 2, .ref 2, .ref 3]) rfl rfl rfl ?_
  refine go_get (v := .int 3) rfl (by rw [ab_rd_other (by decide)]; exact ab_rd_self (by show 2 < g.1; rw [hz]; decide)) rfl ?_
  refine go_s (pc' := 32) (lv' := [(3, .int 32), (0, .ref 2), (1, .long v)]) (st' := [.int 3, .ref 2, .int 3, .ref 3]) rfl rfl rfl ?_
  refine go_iconst (v := 1) rfl (by decide) ?_
  refine go_b2 (v := 4) rfl rfl (fun _ => rfl) (by decide) ?_
  refine go_put (v := .int 4) rfl (by rw [ab_rd_other (by decide)]; exact ab_rd_self (by show 2 < g.1; rw [hz]; decide)) (Nat.le_of_ble_eq_true rfl) (by decide) ?_
  show ab_go 998 ab_M_X4_append 37 [(3, .int 32), (0, .ref 2), (1, .long v)] [.int 3, .ref 3] (ab_wr (ab_wr (ab_wr (ab_wr (ab_wr (ab_wr (ab_wr g 2 (.inr (4, [.ref 3, .int 1, .int 0, .int 0, .int 0, .int 0, .int 0, .int 0, .null]))) 3 (.inl (1, 240, .inl f6))) 2 (.inr (4, [.ref 3, .int 2, .int 0, .int 0, .int 0, .int 0, .int 0, .int 0, .null]))) 3 (.inl (1, 240, .inl f10))) 2 (.inr (4, [.ref 3, .int 3, .int 0, .int 0, .int 0, .int 0, .int 0, .int 0, .null]))) 3 (.inl (1, 240, .inl f14))) 2 (.inr (4, [.ref 3, .int 4, .int 0, .int 0, .int 0, .int 0, .int 0, .int 0, .null]))) _
  refine go_s (pc' := 38) (lv' := [(3, .int 32), (0, .ref 2), (1, .long v)]) (st' := [.long v, .int 3, .ref 3]) rfl rfl rfl ?_
  refine go_s (pc' := 39) (lv' := [(3, .int 32), (0, .ref 2), (1, .long v)]) (st' := [.int 32, .long v, .int 3, .ref 3]) rfl rfl rfl ?_
  obtain ⟨w15, ew15⟩ : ∃ w : Int64, (v >>> (Int32.toInt64 32 &&& 63)) = w := ⟨_, rfl⟩
  refine go_ls (v := w15) rfl rfl (fun _ => rfl) ew15 ?_
  obtain ⟨w16, ew16⟩ : ∃ w : Int32, Int64.toInt32 w15 = w := ⟨_, rfl⟩
  refine go_l2i (v := w16) rfl ew16 ?_
  obtain ⟨w17, ew17⟩ : ∃ w : Int32, (Int32.toInt8 w16).toInt32 = w := ⟨_, rfl⟩
  refine go_b1 (v := w17) rfl rfl (fun _ => rfl) ew17 ?_
  refine go_bas rfl (by rw [ab_rd_other (by decide)]; exact ab_rd_self (by show 3 < g.1; rw [hz]; decide)) (by decide) (by decide) ?_
  generalize upd f14 (Int32.toNatClampNeg 3) (vp_nar .byte w17) = f18
  show ab_go 998 ab_M_X4_append 43 [(3, .int 32), (0, .ref 2), (1, .long v)] [] (ab_wr (ab_wr (ab_wr (ab_wr (ab_wr (ab_wr (ab_wr (ab_wr g 2 (.inr (4, [.ref 3, .int 1, .int 0, .int 0, .int 0, .int 0, .int 0, .int 0, .null]))) 3 (.inl (1, 240, .inl f6))) 2 (.inr (4, [.ref 3, .int 2, .int 0, .int 0, .int 0, .int 0, .int 0, .int 0, .null]))) 3 (.inl (1, 240, .inl f10))) 2 (.inr (4, [.ref 3, .int 3, .int 0, .int 0, .int 0, .int 0, .int 0, .int 0, .null]))) 3 (.inl (1, 240, .inl f14))) 2 (.inr (4, [.ref 3, .int 4, .int 0, .int 0, .int 0, .int 0, .int 0, .int 0, .null]))) 3 (.inl (1, 240, .inl f18))) _
  refine go_s (pc' := 46) (lv' := [(3, .int 24), (0, .ref 2), (1, .long v)]) (st' := []) rfl rfl rfl ?_
  refine go_goto (tgt := 18) rfl (by decide) ?_
  refine go_s (pc' := 19) (lv' := [(3, .int 24), (0, .ref 2), (1, .long v)]) (st' := [.int 24]) rfl rfl rfl ?_
  refine go_iff rfl (by decide) ?_
  refine go_s (pc' := 23) (lv' := [(3, .int 24), (0, .ref 2), (1, .long v)]) (st' := [.ref 2]) rfl rfl rfl ?_
  refine go_get (v := .ref 3) rfl (by rw [ab_rd_other (by decide)]; exact ab_rd_self (by show 2 < g.1; rw [hz]; decide)) rfl ?_
  refine go_s (pc' := 27) (lv' := [(3, .int 24), (0, .ref 2), (1, .long v)]) (st' := [.ref 2, .ref 3]) rfl rfl rfl ?_
  refine go_s (pc' := 28) (lv' := [(3, .int 24), (0, .ref 2), (1, .long v)]) (st' := [.ref 2, .ref 2, .ref 3]) rfl rfl rfl ?_
  refine go_get (v := .int 4) rfl (by rw [ab_rd_other (by decide)]; exact ab_rd_self (by show 2 < g.1; rw [hz]; decide)) rfl ?_
  refine go_s (pc' := 32) (lv' := [(3, .int 24), (0, .ref 2), (1, .long v)]) (st' := [.int 4, .ref 2, .int 4, .ref 3]) rfl rfl rfl ?_
  refine go_iconst (v := 1) rfl (by decide) ?_
  refine go_b2 (v := 5) rfl rfl (fun _ => rfl) (by decide) ?_
  refine go_put (v := .int 5) rfl (by rw [ab_rd_other (by decide)]; exact ab_rd_self (by show 2 < g.1; rw [hz]; decide)) (Nat.le_of_ble_eq_true rfl) (by decide) ?_
  show ab_go 998 ab_M_X4_append 37 [(3, .int 24), (0, .ref 2), (1, .long v)] [.int 4, .ref 3] (ab_wr (ab_wr (ab_wr (ab_wr (ab_wr (ab_wr (ab_wr (ab_wr (ab_wr g 2 (.inr (4, [.ref 3, .int 1, .int 0, .int 0, .int 0, .int 0, .int 0, .int 0, .null]))) 3 (.inl (1, 240, .inl f6))) 2 (.inr (4, [.ref 3, .int 2, .int 0, .int 0, .int 0, .int 0, .int 0, .int 0, .null]))) 3 (.inl (1, 240, .inl f10))) 2 (.inr (4, [.ref 3, .int 3, .int 0, .int 0, .int 0, .int 0, .int 0, .int 0, .null]))) 3 (.inl (1, 240, .inl f14))) 2 (.inr (4, [.ref 3, .int 4, .int 0, .int 0, .int 0, .int 0, .int 0, .int 0, .null]))) 3 (.inl (1, 240, .inl f18))) 2 (.inr (4, [.ref 3, .int 5, .int 0, .int 0, .int 0, .int 0, .int 0, .int 0, .null]))) _
  refine go_s (pc' := 38) (lv' := [(3, .int 24), (0, .ref 2), (1, .long v)]) (st' := [.long v, .int 4, .ref 3]) rfl rfl rfl ?_
  refine go_s (pc' := 39) (lv' := [(3, .int 24), (0, .ref 2), (1, .long v)]) (st' := [.int 24, .long v, .int 4, .ref 3]) rfl rfl rfl ?_
  obtain ⟨w19, ew19⟩ : ∃ w : Int64, (v >>> (Int32.toInt64 24 &&& 63)) = w := ⟨_, rfl⟩
  refine go_ls (v := w19) rfl rfl (fun _ => rfl) ew19 ?_
  obtain ⟨w20, ew20⟩ : ∃ w : Int32, Int64.toInt32 w19 = w := ⟨_, rfl⟩
  refine go_l2i (v := w20) rfl ew20 ?_
  obtain ⟨w21, ew21⟩ : ∃ w : Int32, (Int32.toInt8 w20).toInt32 = w := ⟨_, rfl⟩
  refine go_b1 (v := w21) rfl rfl (fun _ => rfl) ew21 ?_
  refine go_bas rfl (by rw [ab_rd_other (by decide)]; exact ab_rd_self (by show 3 < g.1; rw [hz]; decide)) (by decide) (by decide) ?_
  generalize upd f18 (Int32.toNatClampNeg 4) (vp_nar .byte w21) = f22
  show ab_go 998 ab_M_X4_append 43 [(3, .int 24), (0, .ref 2), (1, .long v)] [] (ab_wr (ab_wr (ab_wr (ab_wr (ab_wr (ab_wr (ab_wr (ab_wr (ab_wr (ab_wr g 2 (.inr (4, [.ref 3, .int 1, .int 0, .int 0, .int 0, .int 0, .int 0, .int 0, .null]))) 3 (.inl (1, 240, .inl f6))) 2 (.inr (4, [.ref 3, .int 2, .int 0, .int 0, .int 0, .int 0, .int 0, .int 0, .null]))) 3 (.inl (1, 240, .inl f10))) 2 (.inr (4, [.ref 3, .int 3, .int 0, .int 0, .int 0, .int 0, .int 0, .int 0, .null]))) 3 (.inl (1, 240, .inl f14))) 2 (.inr (4, [.ref 3, .int 4, .int 0, .int 0, .int 0, .int 0, .int 0, .int 0, .null]))) 3 (.inl (1, 240, .inl f18))) 2 (.inr (4, [.ref 3, .int 5, .int 0, .int 0, .int 0, .int 0, .int 0, .int 0, .null]))) 3 (.inl (1, 240, .inl f22))) _
  refine go_s (pc' := 46) (lv' := [(3, .int 16), (0, .ref 2), (1, .long v)]) (st' := []) rfl rfl rfl ?_
  refine go_goto (tgt := 18) rfl (by decide) ?_
  refine go_s (pc' := 19) (lv' := [(3, .int 16), (0, .ref 2), (1, .long v)]) (st' := [.int 16]) rfl rfl rfl ?_
  refine go_iff rfl (by decide) ?_
  refine go_s (pc' := 23) (lv' := [(3, .int 16), (0, .ref 2), (1, .long v)]) (st' := [.ref 2]) rfl rfl rfl ?_
  refine go_get (v := .ref 3) rfl (by rw [ab_rd_other (by decide)]; exact ab_rd_self (by show 2 < g.1; rw [hz]; decide)) rfl ?_
  refine go_s (pc' := 27) (lv' := [(3, .int 16), (0, .ref 2), (1, .long v)]) (st' := [.ref 2, .ref 3]) rfl rfl rfl ?_
  refine go_s (pc' := 28) (lv' := [(3, .int 16), (0, .ref 2), (1, .long v)]) (st' := [.ref 2, .ref 2, .ref 3]) rfl rfl rfl ?_
  refine go_get (v := .int 5) rfl (by rw [ab_rd_other (by decide)]; exact ab_rd_self (by show 2 < g.1; rw [hz]; decide)) rfl ?_
  refine go_s (pc' := 32) (lv' := [(3, .int 16), (0, .ref 2), (1, .long v)]) (st' := [.int 5, .ref 2, .int 5, .ref 3]) rfl rfl rfl ?_
  refine go_iconst (v := 1) rfl (by decide) ?_
  refine go_b2 (v := 6) rfl rfl (fun _ => rfl) (by decide) ?_
  refine go_put (v := .int 6) rfl (by rw [ab_rd_other (by decide)]; exact ab_rd_self (by show 2 < g.1; rw [hz]; decide)) (Nat.le_of_ble_eq_true rfl) (by decide) ?_
  show ab_go 998 ab_M_X4_append 37 [(3, .int 16), (0, .ref 2), (1, .long v)] [.int 5, .ref 3] (ab_wr (ab_wr (ab_wr (ab_wr (ab_wr (ab_wr (ab_wr (ab_wr (ab_wr (ab_wr (ab_wr g 2 (.inr (4, [.ref 3, .int 1, .int 0, .int 0, .int 0, .int 0, .int 0, .int 0, .null]))) 3 (.inl (1, 240, .inl f6))) 2 (.inr (4, [.ref 3, .int 2, .int 0, .int 0, .int 0, .int 0, .int 0, .int 0, .null]))) 3 (.inl (1, 240, .inl f10))) 2 (.inr (4, [.ref 3, .int 3, .int 0, .int 0, .int 0, .int 0, .int 0, .int 0, .null]))) 3 (.inl (1, 240, .inl f14))) 2 (.inr (4, [.ref 3, .int 4, .int 0, .int 0, .int 0, .int 0, .int 0, .int 0, .null]))) 3 (.inl (1, 240, .inl f18))) 2 (.inr (4, [.ref 3, .int 5, .int 0, .int 0, .int 0, .int 0, .int 0, .int 0, .null]))) 3 (.inl (1, 240, .inl f22))) 2 (.inr (4, [.ref 3, .int 6, .int 0, .int 0, .int 0, .int 0, .int 0, .int 0, .null]))) _
  refine go_s (pc' := 38) (lv' := [(3, .int 16), (0, .ref 2), (1, .long v)]) (st' := [.long v, .int 5, .ref 3]) rfl rfl rfl ?_
  refine go_s (pc' := 39) (lv' := [(3, .int 16), (0, .ref 2), (1, .long v)]) (st' := [.int 16, .long v, .int 5, .ref 3]) rfl rfl rfl ?_
  obtain ⟨w23, ew23⟩ : ∃ w : Int64, (v >>> (Int32.toInt64 16 &&& 63)) = w := ⟨_, rfl⟩
  refine go_ls (v := w23) rfl rfl (fun _ => rfl) ew23 ?_
  obtain ⟨w24, ew24⟩ : ∃ w : Int32, Int64.toInt32 w23 = w := ⟨_, rfl⟩
  refine go_l2i (v := w24) rfl ew24 ?_
  obtain ⟨w25, ew25⟩ : ∃ w : Int32, (Int32.toInt8 w24).toInt32 = w := ⟨_, rfl⟩
  refine go_b1 (v := w25) rfl rfl (fun _ => rfl) ew25 ?_
  refine go_bas rfl (by rw [ab_rd_other (by decide)]; exact ab_rd_self (by show 3 < g.1; rw [hz]; decide)) (by decide) (by decide) ?_
  generalize upd f22 (Int32.toNatClampNeg 5) (vp_nar .byte w25) = f26
  show ab_go 998 ab_M_X4_append 43 [(3, .int 16), (0, .ref 2), (1, .long v)] [] (ab_wr (ab_wr (ab_wr (ab_wr (ab_wr (ab_wr (ab_wr (ab_wr (ab_wr (ab_wr (ab_wr (ab_wr g 2 (.inr (4, [.ref 3, .int 1, .int 0, .int 0, .int 0, .int 0, .int 0, .int 0, .null]))) 3 (.inl (1, 240, .inl f6))) 2 (.inr (4, [.ref 3, .int 2, .int 0, .int 0, .int 0, .int 0, .int 0, .int 0, .null]))) 3 (.inl (1, 240, .inl f10))) 2 (.inr (4, [.ref 3, .int 3, .int 0, .int 0, .int 0, .int 0, .int 0, .int 0, .null]))) 3 (.inl (1, 240, .inl f14))) 2 (.inr (4, [.ref 3, .int 4, .int 0, .int 0, .int 0, .int 0, .int 0, .int 0, .null]))) 3 (.inl (1, 240, .inl f18))) 2 (.inr (4, [.ref 3, .int 5, .int 0, .int 0, .int 0, .int 0, .int 0, .int 0, .null]))) 3 (.inl (1, 240, .inl f22))) 2 (.inr (4, [.ref 3, .int 6, .int 0, .int 0, .int 0, .int 0, .int 0, .int 0, .null]))) 3 (.inl (1, 240, .inl f26))) _
  refine go_s (pc' := 46) (lv' := [(3, .int 8), (0, .ref 2), (1, .long v)]) (st' := []) rfl rfl rfl ?_
  refine go_goto (tgt := 18) rfl (by decide) ?_
  refine go_s (pc' := 19) (lv' := [(3, .int 8), (0, .ref 2), (1, .long v)]) (st' := [.int 8]) rfl rfl rfl ?_
  refine go_iff rfl (by decide) ?_
  refine go_s (pc' := 23) (lv' := [(3, .int 8), (0, .ref 2), (1, .long v)]) (st' := [.ref 2]) rfl rfl rfl ?_
  refine go_get (v := .ref 3) rfl (by rw [ab_rd_other (by decide)]; exact ab_rd_self (by show 2 < g.1; rw [hz]; decide)) rfl ?_
  refine go_s (pc' := 27) (lv' := [(3, .int 8), (0, .ref 2), (1, .long v)]) (st' := [.ref 2, .ref 3]) rfl rfl rfl ?_
  refine go_s (pc' := 28) (lv' := [(3, .int 8), (0, .ref 2), (1, .long v)]) (st' := [.ref 2, .ref 2, .ref 3]) rfl rfl rfl ?_
  refine go_get (v := .int 6) rfl (by rw [ab_rd_other (by decide)]; exact ab_rd_self (by show 2 < g.1; rw [hz]; decide)) rfl ?_
  refine go_s (pc' := 32) (lv' := [(3, .int 8), (0, .ref 2), (1, .long v)]) (st' := [.int 6, .ref 2, .int 6, .ref 3]) rfl rfl rfl ?_
  refine go_iconst (v := 1) rfl (by decide) ?_
  refine go_b2 (v := 7) rfl rfl (fun _ => rfl) (by decide) ?_
  refine go_put (v := .int 7) rfl (by rw [ab_rd_other (by decide)]; exact ab_rd_self (by show 2 < g.1; rw [hz]; decide)) (Nat.le_of_ble_eq_true rfl) (by decide) ?_
  show ab_go 998 ab_M_X4_append 37 [(3, .int 8), (0, .ref 2), (1, .long v)] [.int 6, .ref 3] (ab_wr (ab_wr (ab_wr (ab_wr (ab_wr (ab_wr (ab_wr (ab_wr (ab_wr (ab_wr (ab_wr (ab_wr (ab_wr g 2 (.inr (4, [.ref 3, .int 1, .int 0, .int 0, .int 0, .int 0, .int 0, .int 0, .null]))) 3 (.inl (1, 240, .inl f6))) 2 (.inr (4, [.ref 3, .int 2, .int 0, .int 0, .int 0, .int 0, .int 0, .int 0, .null]))) 3 (.inl (1, 240, .inl f10))) 2 (.inr (4, [.ref 3, .int 3, .int 0, .int 0, .int 0, .int 0, .int 0, .int 0, .null]))) 3 (.inl (1, 240, .inl f14))) 2 (.inr (4, [.ref 3, .int 4, .int 0, .int 0, .int 0, .int 0, .int 0, .int 0, .null]))) 3 (.inl (1, 240, .inl f18))) 2 (.inr (4, [.ref 3, .int 5, .int 0, .int 0, .int 0, .int 0, .int 0, .int 0, .null]))) 3 (.inl (1, 240, .inl f22))) 2 (.inr (4, [.ref 3, .int 6, .int 0, .int 0, .int 0, .int 0, .int 0, .int 0, .null]))) 3 (.inl (1, 240, .inl f26))) 2 (.inr (4, [.ref 3, .int 7, .int 0, .int 0, .int 0, .int 0, .int 0, .int 0, .null]))) _
  refine go_s (pc' := 38) (lv' := [(3, .int 8), (0, .ref 2), (1, .long v)]) (st' := [.long v, .int 6, .ref 3]) rfl rfl rfl ?_
  refine go_s (pc' := 39) (lv' := [(3, .int 8), (0, .ref 2), (1, .long v)]) (st' := [.int 8, .long v, .int 6, .ref 3]) rfl rfl rfl ?_
  obtain ⟨w27, ew27⟩ : ∃ w : Int64, (v >>> (Int32.toInt64 8 &&& 63)) = w := ⟨_, rfl⟩
  refine go_ls (v := w27) rfl rfl (fun _ => rfl) ew27 ?_
  obtain ⟨w28, ew28⟩ : ∃ w : Int32, Int64.toInt32 w27 = w := ⟨_, rfl⟩
  refine go_l2i (v := w28) rfl ew28 ?_
  obtain ⟨w29, ew29⟩ : ∃ w : Int32, (Int32.toInt8 w28).toInt32 = w := ⟨_, rfl⟩
  refine go_b1 (v := w29) rfl rfl (fun _ => rfl) ew29 ?_
  refine go_bas rfl (by rw [ab_rd_other (by decide)]; exact ab_rd_self (by show 3 < g.1; rw [hz]; decide)) (by decide) (by decide) ?_
  generalize upd f26 (Int32.toNatClampNeg 6) (vp_nar .byte w29) = f30
  show ab_go 998 ab_M_X4_append 43 [(3, .int 8), (0, .ref 2), (1, .long v)] [] (ab_wr (ab_wr (ab_wr (ab_wr (ab_wr (ab_wr (ab_wr (ab_wr (ab_wr (ab_wr (ab_wr (ab_wr (ab_wr (ab_wr g 2 (.inr (4, [.ref 3, .int 1, .int 0, .int 0, .int 0, .int 0, .int 0, .int 0, .null]))) 3 (.inl (1, 240, .inl f6))) 2 (.inr (4, [.ref 3, .int 2, .int 0, .int 0, .int 0, .int 0, .int 0, .int 0, .null]))) 3 (.inl (1, 240, .inl f10))) 2 (.inr (4, [.ref 3, .int 3, .int 0, .int 0, .int 0, .int 0, .int 0, .int 0, .null]))) 3 (.inl (1, 240, .inl f14))) 2 (.inr (4, [.ref 3, .int 4, .int 0, .int 0, .int 0, .int 0, .int 0, .int 0, .null]))) 3 (.inl (1, 240, .inl f18))) 2 (.inr (4, [.ref 3, .int 5, .int 0, .int 0, .int 0, .int 0, .int 0, .int 0, .null]))) 3 (.inl (1, 240, .inl f22))) 2 (.inr (4, [.ref 3, .int 6, .int 0, .int 0, .int 0, .int 0, .int 0, .int 0, .null]))) 3 (.inl (1, 240, .inl f26))) 2 (.inr (4, [.ref 3, .int 7, .int 0, .int 0, .int 0, .int 0, .int 0, .int 0, .null]))) 3 (.inl (1, 240, .inl f30))) _
  refine go_s (pc' := 46) (lv' := [(3, .int 0), (0, .ref 2), (1, .long v)]) (st' := []) rfl rfl rfl ?_
  refine go_goto (tgt := 18) rfl (by decide) ?_
  refine go_s (pc' := 19) (lv' := [(3, .int 0), (0, .ref 2), (1, .long v)]) (st' := [.int 0]) rfl rfl rfl ?_
  refine go_iff rfl (by decide) ?_
  refine go_s (pc' := 23) (lv' := [(3, .int 0), (0, .ref 2), (1, .long v)]) (st' := [.ref 2]) rfl rfl rfl ?_
  refine go_get (v := .ref 3) rfl (by rw [ab_rd_other (by decide)]; exact ab_rd_self (by show 2 < g.1; rw [hz]; decide)) rfl ?_
  refine go_s (pc' := 27) (lv' := [(3, .int 0), (0, .ref 2), (1, .long v)]) (st' := [.ref 2, .ref 3]) rfl rfl rfl ?_
  refine go_s (pc' := 28) (lv' := [(3, .int 0), (0, .ref 2), (1, .long v)]) (st' := [.ref 2, .ref 2, .ref 3]) rfl rfl rfl ?_
  refine go_get (v := .int 7) rfl (by rw [ab_rd_other (by decide)]; exact ab_rd_self (by show 2 < g.1; rw [hz]; decide)) rfl ?_
  refine go_s (pc' := 32) (lv' := [(3, .int 0), (0, .ref 2), (1, .long v)]) (st' := [.int 7, .ref 2, .int 7, .ref 3]) rfl rfl rfl ?_
  refine go_iconst (v := 1) rfl (by decide) ?_
  refine go_b2 (v := 8) rfl rfl (fun _ => rfl) (by decide) ?_
  refine go_put (v := .int 8) rfl (by rw [ab_rd_other (by decide)]; exact ab_rd_self (by show 2 < g.1; rw [hz]; decide)) (Nat.le_of_ble_eq_true rfl) (by decide) ?_
  show ab_go 998 ab_M_X4_append 37 [(3, .int 0), (0, .ref 2), (1, .long v)] [.int 7, .ref 3] (ab_wr (ab_wr (ab_wr (ab_wr (ab_wr (ab_wr (ab_wr (ab_wr (ab_wr (ab_wr (ab_wr (ab_wr (ab_wr (ab_wr (ab_wr g 2 (.inr (4, [.ref 3, .int 1, .int 0, .int 0, .int 0, .int 0, .int 0, .int 0, .null]))) 3 (.inl (1, 240, .inl f6))) 2 (.inr (4, [.ref 3, .int 2, .int 0, .int 0, .int 0, .int 0, .int 0, .int 0, .null]))) 3 (.inl (1, 240, .inl f10))) 2 (.inr (4, [.ref 3, .int 3, .int 0, .int 0, .int 0, .int 0, .int 0, .int 0, .null]))) 3 (.inl (1, 240, .inl f14))) 2 (.inr (4, [.ref 3, .int 4, .int 0, .int 0, .int 0, .int 0, .int 0, .int 0, .null]))) 3 (.inl (1, 240, .inl f18))) 2 (.inr (4, [.ref 3, .int 5, .int 0, .int 0, .int 0, .int 0, .int 0, .int 0, .null]))) 3 (.inl (1, 240, .inl f22))) 2 (.inr (4, [.ref 3, .int 6, .int 0, .int 0, .int 0, .int 0, .int 0, .int 0, .null]))) 3 (.inl (1, 240, .inl f26))) 2 (.inr (4, [.ref 3, .int 7, .int 0, .int 0, .int 0, .int 0, .int 0, .int 0, .null]))) 3 (.inl (1, 240, .inl f30))) 2 (.inr (4, [.ref 3, .int 8, .int 0, .int 0, .int 0, .int 0, .int 0, .int 0, .null]))) _
  refine go_s (pc' := 38) (lv' := [(3, .int 0), (0, .ref 2), (1, .long v)]) (st' := [.long v, .int 7, .ref 3]) rfl rfl rfl ?_
  refine go_s (pc' := 39) (lv' := [(3, .int 0), (0, .ref 2), (1, .long v)]) (st' := [.int 0, .long v, .int 7, .ref 3]) rfl rfl rfl ?_
  obtain ⟨w31, ew31⟩ : ∃ w : Int64, (v >>> (Int32.toInt64 0 &&& 63)) = w := ⟨_, rfl⟩
  refine go_ls (v := w31) rfl rfl (fun _ => rfl) ew31 ?_
  obtain ⟨w32, ew32⟩ : ∃ w : Int32, Int64.toInt32 w31 = w := ⟨_, rfl⟩
  refine go_l2i (v := w32) rfl ew32 ?_
  obtain ⟨w33, ew33⟩ : ∃ w : Int32, (Int32.toInt8 w32).toInt32 = w := ⟨_, rfl⟩
  refine go_b1 (v := w33) rfl rfl (fun _ => rfl) ew33 ?_
  refine go_bas rfl (by rw [ab_rd_other (by decide)]; exact ab_rd_self (by show 3 < g.1; rw [hz]; decide)) (by decide) (by decide) ?_
  generalize upd f30 (Int32.toNatClampNeg 7) (vp_nar .byte w33) = f34
  show ab_go 998 ab_M_X4_append 43 [(3, .int 0), (0, .ref 2), (1, .long v)] [] (ab_wr (ab_wr (ab_wr (ab_wr (ab_wr (ab_wr (ab_wr (ab_wr (ab_wr (ab_wr (ab_wr (ab_wr (ab_wr (ab_wr (ab_wr (ab_wr g 2 (.inr (4, [.ref 3, .int 1, .int 0, .int 0, .int 0, .int 0, .int 0, .int 0, .null]))) 3 (.inl (1, 240, .inl f6))) 2 (.inr (4, [.ref 3, .int 2, .int 0, .int 0, .int 0, .int 0, .int 0, .int 0, .null]))) 3 (.inl (1, 240, .inl f10))) 2 (.inr (4, [.ref 3, .int 3, .int 0, .int 0, .int 0, .int 0, .int 0, .int 0, .null]))) 3 (.inl (1, 240, .inl f14))) 2 (.inr (4, [.ref 3, .int 4, .int 0, .int 0, .int 0, .int 0, .int 0, .int 0, .null]))) 3 (.inl (1, 240, .inl f18))) 2 (.inr (4, [.ref 3, .int 5, .int 0, .int 0, .int 0, .int 0, .int 0, .int 0, .null]))) 3 (.inl (1, 240, .inl f22))) 2 (.inr (4, [.ref 3, .int 6, .int 0, .int 0, .int 0, .int 0, .int 0, .int 0, .null]))) 3 (.inl (1, 240, .inl f26))) 2 (.inr (4, [.ref 3, .int 7, .int 0, .int 0, .int 0, .int 0, .int 0, .int 0, .null]))) 3 (.inl (1, 240, .inl f30))) 2 (.inr (4, [.ref 3, .int 8, .int 0, .int 0, .int 0, .int 0, .int 0, .int 0, .null]))) 3 (.inl (1, 240, .inl f34))) _
  refine go_s (pc' := 46) (lv' := [(3, .int (-8)), (0, .ref 2), (1, .long v)]) (st' := []) rfl rfl rfl ?_
  refine go_goto (tgt := 18) rfl (by decide) ?_
  refine go_s (pc' := 19) (lv' := [(3, .int (-8)), (0, .ref 2), (1, .long v)]) (st' := [.int (-8)]) rfl rfl rfl ?_
  refine go_ift (tgt := 49) rfl (by decide) (by decide) ?_
  refine go_iconst (v := 1) rfl (by decide) ?_
  refine go_rz rfl rfl (by decide) ?_
  show ab_go 999 ab_M_X9_feed 8 [(0, .ref 1), (1, .long v)] [.int 1] (ab_wr (ab_wr (ab_wr (ab_wr (ab_wr (ab_wr (ab_wr (ab_wr (ab_wr (ab_wr (ab_wr (ab_wr (ab_wr (ab_wr (ab_wr (ab_wr g 2 (.inr (4, [.ref 3, .int 1, .int 0, .int 0, .int 0, .int 0, .int 0, .int 0, .null]))) 3 (.inl (1, 240, .inl f6))) 2 (.inr (4, [.ref 3, .int 2, .int 0, .int 0, .int 0, .int 0, .int 0, .int 0, .null]))) 3 (.inl (1, 240, .inl f10))) 2 (.inr (4, [.ref 3, .int 3, .int 0, .int 0, .int 0, .int 0, .int 0, .int 0, .null]))) 3 (.inl (1, 240, .inl f14))) 2 (.inr (4, [.ref 3, .int 4, .int 0, .int 0, .int 0, .int 0, .int 0, .int 0, .null]))) 3 (.inl (1, 240, .inl f18))) 2 (.inr (4, [.ref 3, .int 5, .int 0, .int 0, .int 0, .int 0, .int 0, .int 0, .null]))) 3 (.inl (1, 240, .inl f22))) 2 (.inr (4, [.ref 3, .int 6, .int 0, .int 0, .int 0, .int 0, .int 0, .int 0, .null]))) 3 (.inl (1, 240, .inl f26))) 2 (.inr (4, [.ref 3, .int 7, .int 0, .int 0, .int 0, .int 0, .int 0, .int 0, .null]))) 3 (.inl (1, 240, .inl f30))) 2 (.inr (4, [.ref 3, .int 8, .int 0, .int 0, .int 0, .int 0, .int 0, .int 0, .null]))) 3 (.inl (1, 240, .inl f34))) _
  refine go_iff rfl (by decide) ?_
  refine go_s (pc' := 12) (lv' := [(0, .ref 1), (1, .long v)]) (st' := [.ref 1]) rfl rfl rfl ?_
  refine go_get (v := .ref 2) rfl (by rw [ab_rd_other (by decide), ab_rd_other (by decide), ab_rd_other (by decide), ab_rd_other (by decide), ab_rd_other (by decide), ab_rd_other (by decide), ab_rd_other (by decide), ab_rd_other (by decide), ab_rd_other (by decide), ab_rd_other (by decide), ab_rd_other (by decide), ab_rd_other (by decide), ab_rd_other (by decide), ab_rd_other (by decide), ab_rd_other (by decide), ab_rd_other (by decide)]; exact ab_fo q p1_o_p1_Hx_1 (by decide)) rfl ?_
  refine go_get (v := .int 8) rfl (by rw [ab_rd_other (by decide)]; exact ab_rd_self (by show 2 < g.1; rw [hz]; decide)) rfl ?_
  refine go_goto (tgt := 23) rfl (by decide) ?_
  refine go_ri rfl rfl ?_
  exact ⟨rfl, ((((((((((((((((x0.wr (by decide) _).wr (by decide) _).wr (by decide) _).wr (by decide) _).wr (by decide) _).wr (by decide) _).wr (by decide) _).wr (by decide) _).wr (by decide) _).wr (by decide) _).wr (by decide) _).wr (by decide) _).wr (by decide) _).wr (by decide) _).wr (by decide) _).wr (by decide) _)⟩
set_option maxHeartbeats 16000000 in
set_option maxRecDepth 20000 in
theorem x_end {g : ab_H} (q : ab_sim p1_Sx p1_Hx g) (n : Int32) : ab_go 999 ab_M_X9_end 0 [(0, .ref 1), (1, .int n)] [] g (fun r g' => r = some (.int (an_end n)) ∧ p1_X g g') := by
  have hz : g.1 = 120 := q.1.symm
  have x0 : p1_X g g := ⟨q.1.symm, q.2.1.symm, fun _ _ => rfl⟩
  refine go_s (pc' := 1) (lv' := [(0, .ref 1), (1, .int n)]) (st' := [.int n]) rfl rfl rfl ?_
  refine go_if (tgt := 15) rfl (by decide) (fun c => ?_) (fun c => ?_)
  ·
    have c1 : n.toInt < 0 := c
    refine go_iconst (v := (-1)) rfl (by decide) ?_
    refine go_ri rfl rfl ?_
    exact ⟨(by unfold an_end; first | (rw [if_pos (by omega)]; done) | (rw [if_neg (by omega)]; done) | (rw [if_neg (by omega), if_pos (by omega)]; done) | (rw [if_neg (by omega), if_neg (by omega)]; done) | (rw [if_pos (by omega), if_pos (by omega)]; done) | (rw [if_pos (by omega), if_neg (by omega)]; done) | decide | (simp; omega)), x0⟩
  ·
    have c2 : ¬ n.toInt < 0 := c
    refine go_s (pc' := 5) (lv' := [(0, .ref 1), (1, .int n)]) (st' := [.int n]) rfl rfl rfl ?_
    refine go_s (pc' := 6) (lv' := [(0, .ref 1), (1, .int n)]) (st' := [.ref 1, .int n]) rfl rfl rfl ?_
    refine go_get (v := .ref 2) rfl (ab_fo q p1_o_p1_Hx_1 (by decide)) rfl ?_
    refine go_get (v := .int 0) rfl (ab_fo q p1_o_p1_Hx_2 (by decide)) rfl ?_
    refine go_ic (tgt := 17) rfl (by decide) (fun c => ?_) (fun c => ?_)
    ·
      have c3 : n.toInt ≤ 0 := c
      refine go_s (pc' := 18) (lv' := [(0, .ref 1), (1, .int n)]) (st' := [.ref 1]) rfl rfl rfl ?_
      refine go_get (v := .ref 2) rfl (ab_fo q p1_o_p1_Hx_1 (by decide)) rfl ?_
      refine go_get (v := .int 0) rfl (ab_fo q p1_o_p1_Hx_2 (by decide)) rfl ?_
      refine go_s (pc' := 25) (lv' := [(2, .int 0), (0, .ref 1), (1, .int n)]) (st' := []) rfl rfl rfl ?_
      refine go_s (pc' := 26) (lv' := [(2, .int 0), (0, .ref 1), (1, .int n)]) (st' := [.ref 1]) rfl rfl rfl ?_
      refine go_get (v := .ref 2) rfl (ab_fo q p1_o_p1_Hx_1 (by decide)) rfl ?_
      refine go_s (pc' := 30) (lv' := [(2, .int 0), (0, .ref 1), (1, .int n)]) (st' := [.int n, .ref 2]) rfl rfl rfl ?_
      refine go_put (v := .int n) rfl (ab_fo q p1_o_p1_Hx_2 (by decide)) (Nat.le_of_ble_eq_true rfl) (ab_fit_i _) ?_
      show ab_go 999 ab_M_X9_end 33 [(2, .int 0), (0, .ref 1), (1, .int n)] [] (ab_wr g 2 (.inr (4, [.ref 3, .int n, .int 0, .int 0, .int 0, .int 0, .int 0, .int 0, .null]))) _
      refine go_s (pc' := 34) (lv' := [(2, .int 0), (0, .ref 1), (1, .int n)]) (st' := [.int 0]) rfl rfl rfl ?_
      refine go_ri rfl rfl ?_
      exact ⟨(by unfold an_end; first | (rw [if_pos (by omega)]; done) | (rw [if_neg (by omega)]; done) | (rw [if_neg (by omega), if_pos (by omega)]; done) | (rw [if_neg (by omega), if_neg (by omega)]; done) | (rw [if_pos (by omega), if_pos (by omega)]; done) | (rw [if_pos (by omega), if_neg (by omega)]; done) | decide | (simp; omega)), (x0.wr (by decide) _)⟩
    ·
      have c4 : ¬ n.toInt ≤ 0 := c
      refine go_iconst (v := (-1)) rfl (by decide) ?_
      refine go_ri rfl rfl ?_
      exact ⟨(by unfold an_end; first | (rw [if_pos (by omega)]; done) | (rw [if_neg (by omega)]; done) | (rw [if_neg (by omega), if_pos (by omega)]; done) | (rw [if_neg (by omega), if_neg (by omega)]; done) | (rw [if_pos (by omega), if_pos (by omega)]; done) | (rw [if_pos (by omega), if_neg (by omega)]; done) | decide | (simp; omega)), x0⟩
set_option maxHeartbeats 16000000 in
set_option maxRecDepth 20000 in
theorem x_text {g : ab_H} (q : ab_sim p1_Sx p1_Hx g) : ab_go 999 ab_M_X9_text 0 [(0, .ref 1)] [] g (fun r g' => r = some (.int 0) ∧ p1_X g g') := by
  have x0 : p1_X g g := ⟨q.1.symm, q.2.1.symm, fun _ _ => rfl⟩
  obtain ⟨n, r, hF, hx, hr, z, w0, q1, f0⟩ := go_sim p1_R1 q
  exact ⟨n, r, hF, hx, hr, x0.next f0 z w0⟩
set_option maxHeartbeats 16000000 in
set_option maxRecDepth 20000 in
theorem x_fault {g : ab_H} (q : ab_sim p1_Sx p1_Hx g) : ab_go 999 ab_M_X9_fault 0 [(0, .ref 1)] [] g (fun r g' => r = some (.int 0) ∧ p1_X g g') := by
  have x0 : p1_X g g := ⟨q.1.symm, q.2.1.symm, fun _ _ => rfl⟩
  obtain ⟨n, r, hF, hx, hr, z, w0, q1, f0⟩ := go_sim p1_R2 q
  exact ⟨n, r, hF, hx, hr, x0.next f0 z w0⟩
set_option maxHeartbeats 16000000 in
set_option maxRecDepth 20000 in
theorem x_wire {g : ab_H} (q : ab_sim p1_Sx p1_Hx g) (w : Int32) (what : Int32) : ab_go 999 ab_M_X9_wire 0 [(0, .ref 1), (1, .int w), (2, .int what)] [] g (fun r g' => r = some (.int (-1)) ∧ p1_X g g') := by
  have hz : g.1 = 120 := q.1.symm
  have x0 : p1_X g g := ⟨q.1.symm, q.2.1.symm, fun _ _ => rfl⟩
  refine go_s (pc' := 1) (lv' := [(0, .ref 1), (1, .int w), (2, .int what)]) (st' := [.ref 1]) rfl rfl rfl ?_
  refine go_get (v := .ref 41) rfl (ab_fo q p1_o_p1_Hx_1 (by decide)) rfl ?_
  refine go_s (pc' := 5) (lv' := [(0, .ref 1), (1, .int w), (2, .int what)]) (st' := [.int w, .ref 41]) rfl rfl rfl ?_
  refine go_cc rfl rfl (ab_cal_v (As := [.int w]) (rest := []) rfl rfl rfl (ab_fo q p1_o_p1_Hx_41 (by decide)) rfl rfl rfl rfl) (lv0 := [(0, .ref 41), (1, .int w)]) rfl ?_
  refine go_s (pc' := 1) (lv' := [(0, .ref 41), (1, .int w)]) (st' := [.int w]) rfl rfl rfl ?_
  refine go_if (tgt := 16) rfl (by decide) (fun c => ?_) (fun c => ?_)
  ·
    have c1 : w.toInt < 0 := c
    refine go_iconst (v := 0) rfl (by decide) ?_
    refine go_rz rfl rfl (by decide) ?_
    show ab_go 999 ab_M_X9_wire 8 [(0, .ref 1), (1, .int w), (2, .int what)] [.int 0] g _
    refine go_iff rfl (by decide) ?_
    refine go_iconst (v := (-1)) rfl (by decide) ?_
    refine go_ri rfl rfl ?_
    exact ⟨rfl, x0⟩
  ·
    have c2 : ¬ w.toInt < 0 := c
    refine go_s (pc' := 5) (lv' := [(0, .ref 41), (1, .int w)]) (st' := [.int w]) rfl rfl rfl ?_
    refine go_s (pc' := 6) (lv' := [(0, .ref 41), (1, .int w)]) (st' := [.ref 41, .int w]) rfl rfl rfl ?_
    refine go_get (v := .int 0) rfl (ab_fo q p1_o_p1_Hx_41 (by decide)) rfl ?_
    refine go_ic (tgt := 16) rfl (by decide) (fun c => ?_) (fun c => ?_)
    ·
      have c3 : 0 ≤ w.toInt := c
      refine go_iconst (v := 0) rfl (by decide) ?_
      refine go_rz rfl rfl (by decide) ?_
      show ab_go 999 ab_M_X9_wire 8 [(0, .ref 1), (1, .int w), (2, .int what)] [.int 0] g _
      refine go_iff rfl (by decide) ?_
      refine go_iconst (v := (-1)) rfl (by decide) ?_
      refine go_ri rfl rfl ?_
      exact ⟨rfl, x0⟩
    ·
      have c4 : ¬ 0 ≤ w.toInt := c
      exfalso; omega
set_option maxHeartbeats 16000000 in
set_option maxRecDepth 20000 in
theorem x_event {g : ab_H} (q : ab_sim p1_Sx p1_Hx g) (e : Int32) (what : Int32) : ab_go 999 ab_M_X9_event 0 [(0, .ref 1), (1, .int e), (2, .int what)] [] g (fun r g' => r = some (.int (-1)) ∧ p1_X g g') := by
  have hz : g.1 = 120 := q.1.symm
  have x0 : p1_X g g := ⟨q.1.symm, q.2.1.symm, fun _ _ => rfl⟩
  refine go_s (pc' := 1) (lv' := [(0, .ref 1), (1, .int e), (2, .int what)]) (st' := [.ref 1]) rfl rfl rfl ?_
  refine go_get (v := .ref 41) rfl (ab_fo q p1_o_p1_Hx_1 (by decide)) rfl ?_
  refine go_s (pc' := 5) (lv' := [(0, .ref 1), (1, .int e), (2, .int what)]) (st' := [.int e, .ref 41]) rfl rfl rfl ?_
  refine go_cc rfl rfl (ab_cal_v (As := [.int e]) (rest := []) rfl rfl rfl (ab_fo q p1_o_p1_Hx_41 (by decide)) rfl rfl rfl rfl) (lv0 := [(0, .ref 41), (1, .int e)]) rfl ?_
  refine go_s (pc' := 1) (lv' := [(0, .ref 41), (1, .int e)]) (st' := [.int e]) rfl rfl rfl ?_
  refine go_if (tgt := 16) rfl (by decide) (fun c => ?_) (fun c => ?_)
  ·
    have c1 : e.toInt < 0 := c
    refine go_iconst (v := 0) rfl (by decide) ?_
    refine go_rz rfl rfl (by decide) ?_
    show ab_go 999 ab_M_X9_event 8 [(0, .ref 1), (1, .int e), (2, .int what)] [.int 0] g _
    refine go_iff rfl (by decide) ?_
    refine go_iconst (v := (-1)) rfl (by decide) ?_
    refine go_ri rfl rfl ?_
    exact ⟨rfl, x0⟩
  ·
    have c2 : ¬ e.toInt < 0 := c
    refine go_s (pc' := 5) (lv' := [(0, .ref 41), (1, .int e)]) (st' := [.int e]) rfl rfl rfl ?_
    refine go_s (pc' := 6) (lv' := [(0, .ref 41), (1, .int e)]) (st' := [.ref 41, .int e]) rfl rfl rfl ?_
    refine go_get (v := .int 0) rfl (ab_fo q p1_o_p1_Hx_41 (by decide)) rfl ?_
    refine go_ic (tgt := 16) rfl (by decide) (fun c => ?_) (fun c => ?_)
    ·
      have c3 : 0 ≤ e.toInt := c
      refine go_iconst (v := 0) rfl (by decide) ?_
      refine go_rz rfl rfl (by decide) ?_
      show ab_go 999 ab_M_X9_event 8 [(0, .ref 1), (1, .int e), (2, .int what)] [.int 0] g _
      refine go_iff rfl (by decide) ?_
      refine go_iconst (v := (-1)) rfl (by decide) ?_
      refine go_ri rfl rfl ?_
      exact ⟨rfl, x0⟩
    ·
      have c4 : ¬ 0 ≤ e.toInt := c
      exfalso; omega
set_option maxHeartbeats 16000000 in
set_option maxRecDepth 20000 in
theorem x_place {g : ab_H} (q : ab_sim p1_Sx p1_Hx g) (k : Int32) (what : Int32) : ab_go 999 ab_M_X9_place 0 [(0, .ref 1), (1, .int k), (2, .int what)] [] g (fun r g' => r = some (.int (-1)) ∧ p1_X g g') := by
  have hz : g.1 = 120 := q.1.symm
  have x0 : p1_X g g := ⟨q.1.symm, q.2.1.symm, fun _ _ => rfl⟩
  refine go_s (pc' := 1) (lv' := [(0, .ref 1), (1, .int k), (2, .int what)]) (st' := [.ref 1]) rfl rfl rfl ?_
  refine go_get (v := .ref 41) rfl (ab_fo q p1_o_p1_Hx_1 (by decide)) rfl ?_
  refine go_s (pc' := 5) (lv' := [(0, .ref 1), (1, .int k), (2, .int what)]) (st' := [.int k, .ref 41]) rfl rfl rfl ?_
  refine go_cc rfl rfl (ab_cal_v (As := [.int k]) (rest := []) rfl rfl rfl (ab_fo q p1_o_p1_Hx_41 (by decide)) rfl rfl rfl rfl) (lv0 := [(0, .ref 41), (1, .int k)]) rfl ?_
  refine go_s (pc' := 1) (lv' := [(0, .ref 41), (1, .int k)]) (st' := [.int k]) rfl rfl rfl ?_
  refine go_if (tgt := 16) rfl (by decide) (fun c => ?_) (fun c => ?_)
  ·
    have c1 : k.toInt < 0 := c
    refine go_iconst (v := 0) rfl (by decide) ?_
    refine go_rz rfl rfl (by decide) ?_
    show ab_go 999 ab_M_X9_place 8 [(0, .ref 1), (1, .int k), (2, .int what)] [.int 0] g _
    refine go_iff rfl (by decide) ?_
    refine go_iconst (v := (-1)) rfl (by decide) ?_
    refine go_ri rfl rfl ?_
    exact ⟨rfl, x0⟩
  ·
    have c2 : ¬ k.toInt < 0 := c
    refine go_s (pc' := 5) (lv' := [(0, .ref 41), (1, .int k)]) (st' := [.int k]) rfl rfl rfl ?_
    refine go_s (pc' := 6) (lv' := [(0, .ref 41), (1, .int k)]) (st' := [.ref 41, .int k]) rfl rfl rfl ?_
    refine go_get (v := .int 0) rfl (ab_fo q p1_o_p1_Hx_41 (by decide)) rfl ?_
    refine go_ic (tgt := 16) rfl (by decide) (fun c => ?_) (fun c => ?_)
    ·
      have c3 : 0 ≤ k.toInt := c
      refine go_iconst (v := 0) rfl (by decide) ?_
      refine go_rz rfl rfl (by decide) ?_
      show ab_go 999 ab_M_X9_place 8 [(0, .ref 1), (1, .int k), (2, .int what)] [.int 0] g _
      refine go_iff rfl (by decide) ?_
      refine go_iconst (v := (-1)) rfl (by decide) ?_
      refine go_ri rfl rfl ?_
      exact ⟨rfl, x0⟩
    ·
      have c4 : ¬ 0 ≤ k.toInt := c
      exfalso; omega
set_option maxHeartbeats 16000000 in
set_option maxRecDepth 20000 in
theorem x_states {g : ab_H} (q : ab_sim p1_Sx p1_Hx g) : ab_go 999 ab_M_X9_states 0 [(0, .ref 1)] [] g (fun r g' => r = some (.int 1) ∧ p1_X g g') := by
  have x0 : p1_X g g := ⟨q.1.symm, q.2.1.symm, fun _ _ => rfl⟩
  obtain ⟨n, r, hF, hx, hr, z, w0, q1, f0⟩ := go_sim p1_R3 q
  exact ⟨n, r, hF, hx, hr, x0.next f0 z w0⟩
set_option maxHeartbeats 16000000 in
set_option maxRecDepth 20000 in
theorem x_right {g : ab_H} (q : ab_sim p1_Sx p1_Hx g) : ab_go 999 ab_M_X9_right 0 [(0, .ref 1)] [] g (fun r g' => r = some (.int 1) ∧ p1_X g g') := by
  have x0 : p1_X g g := ⟨q.1.symm, q.2.1.symm, fun _ _ => rfl⟩
  obtain ⟨n, r, hF, hx, hr, z, w0, q1, f0⟩ := go_sim p1_R4 q
  exact ⟨n, r, hF, hx, hr, x0.next f0 z w0⟩
set_option maxHeartbeats 16000000 in
set_option maxRecDepth 20000 in
theorem x_of {g : ab_H} (q : ab_sim p1_Sx p1_Hx g) (s : Int32) (w : Int32) : ab_go 999 ab_M_X9_of 0 [(0, .ref 1), (1, .int s), (2, .int w)] [] g (fun r g' => r = some (.int (an_of s w)) ∧ p1_X g g') := by
  have hz : g.1 = 120 := q.1.symm
  have x0 : p1_X g g := ⟨q.1.symm, q.2.1.symm, fun _ _ => rfl⟩
  refine go_s (pc' := 1) (lv' := [(0, .ref 1), (1, .int s), (2, .int w)]) (st' := [.ref 1]) rfl rfl rfl ?_
  refine go_c rfl rfl (ab_cal_v (As := []) (rest := []) rfl rfl rfl (ab_fo q p1_o_p1_Hx_1 (by decide)) rfl rfl rfl rfl) (lv0 := [(0, .ref 1)]) rfl (go_sim p1_R5 q) (fun r0 g1 hr => ?_)
  obtain ⟨rfl, z4, w0, q2, f0⟩ := hr
  have x3 := x0.next f0 z4 w0
  show ab_go 999 ab_M_X9_of 4 [(0, .ref 1), (1, .int s), (2, .int w)] [] g1 _
  refine go_s (pc' := 5) (lv' := [(0, .ref 1), (1, .int s), (2, .int w)]) (st' := [.int s]) rfl rfl rfl ?_
  refine go_if (tgt := 19) rfl (by decide) (fun c => ?_) (fun c => ?_)
  ·
    have c5 : s.toInt < 0 := c
    refine go_iconst (v := (-1)) rfl (by decide) ?_
    refine go_ri rfl rfl ?_
    exact ⟨(by unfold an_of; first | (rw [if_pos (by omega)]; done) | (rw [if_neg (by omega)]; done) | (rw [if_neg (by omega), if_pos (by omega)]; done) | (rw [if_neg (by omega), if_neg (by omega)]; done) | (rw [if_pos (by omega), if_pos (by omega)]; done) | (rw [if_pos (by omega), if_neg (by omega)]; done) | decide | (simp; omega)), x3⟩
  ·
    have c6 : ¬ s.toInt < 0 := c
    refine go_s (pc' := 9) (lv' := [(0, .ref 1), (1, .int s), (2, .int w)]) (st' := [.int s]) rfl rfl rfl ?_
    refine go_s (pc' := 10) (lv' := [(0, .ref 1), (1, .int s), (2, .int w)]) (st' := [.ref 1, .int s]) rfl rfl rfl ?_
    refine go_get (v := .ref 4) rfl (ab_fo q2 p1_o_p1_C5_1 (by decide)) rfl ?_
    refine go_get (v := .int 1) rfl (ab_fo q2 p1_o_p1_C5_4 (by decide)) rfl ?_
    refine go_ic (tgt := 21) rfl (by decide) (fun c => ?_) (fun c => ?_)
    ·
      have c7 : s.toInt < 1 := c
      refine go_s (pc' := 22) (lv' := [(0, .ref 1), (1, .int s), (2, .int w)]) (st' := [.int w]) rfl rfl rfl ?_
      refine go_bipush (v := 10) rfl (by decide) ?_
      refine go_ic (tgt := 58) rfl (by decide) (fun c => ?_) (fun c => ?_)
      ·
        have c8 : w.toInt < 10 := c
        refine go_s (pc' := 59) (lv' := [(0, .ref 1), (1, .int s), (2, .int w)]) (st' := [.int w]) rfl rfl rfl ?_
        refine go_if (tgt := 67) rfl (by decide) (fun c => ?_) (fun c => ?_)
        ·
          have c9 : w.toInt < 0 := c
          refine go_iconst (v := (-1)) rfl (by decide) ?_
          refine go_ri rfl rfl ?_
          exact ⟨(by unfold an_of; first | (rw [if_pos (by omega)]; done) | (rw [if_neg (by omega)]; done) | (rw [if_neg (by omega), if_pos (by omega)]; done) | (rw [if_neg (by omega), if_neg (by omega)]; done) | (rw [if_pos (by omega), if_pos (by omega)]; done) | (rw [if_pos (by omega), if_neg (by omega)]; done) | decide | (simp; omega)), x3⟩
        ·
          have c10 : ¬ w.toInt < 0 := c
          refine go_s (pc' := 63) (lv' := [(0, .ref 1), (1, .int s), (2, .int w)]) (st' := [.int w]) rfl rfl rfl ?_
          refine go_iconst (v := 4) rfl (by decide) ?_
          refine go_ic (tgt := 69) rfl (by decide) (fun c => ?_) (fun c => ?_)
          ·
            have c11 : w.toInt ≤ 4 := c
            refine go_s (pc' := 70) (lv' := [(0, .ref 1), (1, .int s), (2, .int w)]) (st' := [.int w]) rfl rfl rfl ?_
            refine go_if (tgt := 83) rfl (by decide) (fun c => ?_) (fun c => ?_)
            ·
              have c12 : ¬ w.toInt = 0 := c
              refine go_s (pc' := 84) (lv' := [(0, .ref 1), (1, .int s), (2, .int w)]) (st' := [.int w]) rfl rfl rfl ?_
              refine go_iconst (v := 1) rfl (by decide) ?_
              refine go_ic (tgt := 98) rfl (by decide) (fun c => ?_) (fun c => ?_)
              ·
                have c13 : ¬ w.toInt = 1 := c
                refine go_s (pc' := 99) (lv' := [(0, .ref 1), (1, .int s), (2, .int w)]) (st' := [.ref 1]) rfl rfl rfl ?_
                refine go_get (v := .ref 4) rfl (ab_fo q2 p1_o_p1_C5_1 (by decide)) rfl ?_
                refine go_get (v := .int 1) rfl (ab_fo q2 p1_o_p1_C5_4 (by decide)) rfl ?_
                refine go_ift (tgt := 111) rfl (by decide) (by decide) ?_
                refine go_s (pc' := 112) (lv' := [(0, .ref 1), (1, .int s), (2, .int w)]) (st' := [.int w]) rfl rfl rfl ?_
                refine go_iconst (v := 2) rfl (by decide) ?_
                refine go_ic (tgt := 128) rfl (by decide) (fun c => ?_) (fun c => ?_)
                ·
                  have c14 : ¬ w.toInt = 2 := c
                  refine go_s (pc' := 129) (lv' := [(0, .ref 1), (1, .int s), (2, .int w)]) (st' := [.int w]) rfl rfl rfl ?_
                  refine go_iconst (v := 3) rfl (by decide) ?_
                  refine go_ic (tgt := 145) rfl (by decide) (fun c => ?_) (fun c => ?_)
                  ·
                    have c15 : ¬ w.toInt = 3 := c
                    refine go_s (pc' := 146) (lv' := [(0, .ref 1), (1, .int s), (2, .int w)]) (st' := [.ref 1]) rfl rfl rfl ?_
                    refine go_get (v := .ref 4) rfl (ab_fo q2 p1_o_p1_C5_1 (by decide)) rfl ?_
                    refine go_s (pc' := 150) (lv' := [(0, .ref 1), (1, .int s), (2, .int w)]) (st' := [.int s, .ref 4]) rfl rfl rfl ?_
                    refine go_cc rfl rfl (ab_cal_v (As := [.int s]) (rest := []) rfl rfl rfl (ab_fo q2 p1_o_p1_C5_4 (by decide)) rfl rfl rfl rfl) (lv0 := [(0, .ref 4), (1, .int s)]) rfl ?_
                    refine go_s (pc' := 1) (lv' := [(0, .ref 4), (1, .int s)]) (st' := [.ref 4]) rfl rfl rfl ?_
                    refine go_get (v := .ref 7) rfl (ab_fo q2 p1_o_p1_C5_4 (by decide)) rfl ?_
                    refine go_s (pc' := 5) (lv' := [(0, .ref 4), (1, .int s)]) (st' := [.int s, .ref 7]) rfl rfl rfl ?_
                    obtain rfl : s = 0 := ab_i0 0 (by have e : (0 : Int32).toInt = 0 := rfl; omega)
                    obtain ⟨f16, h17, vh17⟩ := ab_fa q2 p1_a_p1_C5_7_0
                    refine go_ial (v := 0) rfl h17 (by decide) vh17 ?_
                    refine go_s (pc' := 7) (lv' := [(0, .ref 4), (1, .int 0)]) (st' := [.ref 4, .int 0]) rfl rfl rfl ?_
                    refine go_get (v := .ref 8) rfl (ab_fo q2 p1_o_p1_C5_4 (by decide)) rfl ?_
                    refine go_s (pc' := 11) (lv' := [(0, .ref 4), (1, .int 0)]) (st' := [.int 0, .ref 8, .int 0]) rfl rfl rfl ?_
                    obtain ⟨f18, h19, vh19⟩ := ab_fa q2 p1_a_p1_C5_8_0
                    refine go_ial (v := 0) rfl h19 (by decide) vh19 ?_
                    refine go_b2 (v := 0) rfl rfl (fun _ => rfl) (by decide) ?_
                    refine go_ri rfl rfl ?_
                    show ab_go 999 ab_M_X9_of 153 [(0, .ref 1), (1, .int 0), (2, .int w)] [.int 0] g1 _
                    refine go_ri rfl rfl ?_
                    exact ⟨(by unfold an_of; first | (rw [if_pos (by omega)]; done) | (rw [if_neg (by omega)]; done) | (rw [if_neg (by omega), if_pos (by omega)]; done) | (rw [if_neg (by omega), if_neg (by omega)]; done) | (rw [if_pos (by omega), if_pos (by omega)]; done) | (rw [if_pos (by omega), if_neg (by omega)]; done) | decide | (simp; omega)), x3⟩
                  ·
                    have c20 : ¬ (¬ w.toInt = 3) := c
                    refine go_s (pc' := 134) (lv' := [(0, .ref 1), (1, .int s), (2, .int w)]) (st' := [.ref 1]) rfl rfl rfl ?_
                    refine go_get (v := .ref 4) rfl (ab_fo q2 p1_o_p1_C5_1 (by decide)) rfl ?_
                    refine go_get (v := .ref 8) rfl (ab_fo q2 p1_o_p1_C5_4 (by decide)) rfl ?_
                    refine go_s (pc' := 141) (lv' := [(0, .ref 1), (1, .int s), (2, .int w)]) (st' := [.int s, .ref 8]) rfl rfl rfl ?_
                    obtain rfl : s = 0 := ab_i0 0 (by have e : (0 : Int32).toInt = 0 := rfl; omega)
                    obtain ⟨f21, h22, vh22⟩ := ab_fa q2 p1_a_p1_C5_8_0
                    refine go_ial (v := 0) rfl h22 (by decide) vh22 ?_
                    refine go_goto (tgt := 153) rfl (by decide) ?_
                    refine go_ri rfl rfl ?_
                    exact ⟨(by unfold an_of; first | (rw [if_pos (by omega)]; done) | (rw [if_neg (by omega)]; done) | (rw [if_neg (by omega), if_pos (by omega)]; done) | (rw [if_neg (by omega), if_neg (by omega)]; done) | (rw [if_pos (by omega), if_pos (by omega)]; done) | (rw [if_pos (by omega), if_neg (by omega)]; done) | decide | (simp; omega)), x3⟩
                ·
                  have c23 : ¬ (¬ w.toInt = 2) := c
                  refine go_s (pc' := 117) (lv' := [(0, .ref 1), (1, .int s), (2, .int w)]) (st' := [.ref 1]) rfl rfl rfl ?_
                  refine go_get (v := .ref 4) rfl (ab_fo q2 p1_o_p1_C5_1 (by decide)) rfl ?_
                  refine go_get (v := .ref 7) rfl (ab_fo q2 p1_o_p1_C5_4 (by decide)) rfl ?_
                  refine go_s (pc' := 124) (lv' := [(0, .ref 1), (1, .int s), (2, .int w)]) (st' := [.int s, .ref 7]) rfl rfl rfl ?_
                  obtain rfl : s = 0 := ab_i0 0 (by have e : (0 : Int32).toInt = 0 := rfl; omega)
                  obtain ⟨f24, h25, vh25⟩ := ab_fa q2 p1_a_p1_C5_7_0
                  refine go_ial (v := 0) rfl h25 (by decide) vh25 ?_
                  refine go_goto (tgt := 153) rfl (by decide) ?_
                  refine go_ri rfl rfl ?_
                  exact ⟨(by unfold an_of; first | (rw [if_pos (by omega)]; done) | (rw [if_neg (by omega)]; done) | (rw [if_neg (by omega), if_pos (by omega)]; done) | (rw [if_neg (by omega), if_neg (by omega)]; done) | (rw [if_pos (by omega), if_pos (by omega)]; done) | (rw [if_pos (by omega), if_neg (by omega)]; done) | decide | (simp; omega)), x3⟩
              ·
                have c26 : ¬ (¬ w.toInt = 1) := c
                refine go_s (pc' := 89) (lv' := [(0, .ref 1), (1, .int s), (2, .int w)]) (st' := [.ref 1]) rfl rfl rfl ?_
                refine go_get (v := .ref 4) rfl (ab_fo q2 p1_o_p1_C5_1 (by decide)) rfl ?_
                refine go_get (v := .ref 6) rfl (ab_fo q2 p1_o_p1_C5_4 (by decide)) rfl ?_
                refine go_s (pc' := 96) (lv' := [(0, .ref 1), (1, .int s), (2, .int w)]) (st' := [.int s, .ref 6]) rfl rfl rfl ?_
                obtain rfl : s = 0 := ab_i0 0 (by have e : (0 : Int32).toInt = 0 := rfl; omega)
                obtain ⟨f27, h28, vh28⟩ := ab_fa q2 p1_a_p1_C5_6_0
                refine go_ial (v := 0) rfl h28 (by decide) vh28 ?_
                refine go_ri rfl rfl ?_
                exact ⟨(by unfold an_of; first | (rw [if_pos (by omega)]; done) | (rw [if_neg (by omega)]; done) | (rw [if_neg (by omega), if_pos (by omega)]; done) | (rw [if_neg (by omega), if_neg (by omega)]; done) | (rw [if_pos (by omega), if_pos (by omega)]; done) | (rw [if_pos (by omega), if_neg (by omega)]; done) | decide | (simp; omega)), x3⟩
            ·
              have c29 : ¬ (¬ w.toInt = 0) := c
              refine go_s (pc' := 74) (lv' := [(0, .ref 1), (1, .int s), (2, .int w)]) (st' := [.ref 1]) rfl rfl rfl ?_
              refine go_get (v := .ref 4) rfl (ab_fo q2 p1_o_p1_C5_1 (by decide)) rfl ?_
              refine go_get (v := .ref 5) rfl (ab_fo q2 p1_o_p1_C5_4 (by decide)) rfl ?_
              refine go_s (pc' := 81) (lv' := [(0, .ref 1), (1, .int s), (2, .int w)]) (st' := [.int s, .ref 5]) rfl rfl rfl ?_
              obtain rfl : s = 0 := ab_i0 0 (by have e : (0 : Int32).toInt = 0 := rfl; omega)
              obtain ⟨f30, h31, vh31⟩ := ab_fa q2 p1_a_p1_C5_5_0
              refine go_ial (v := 0) rfl h31 (by decide) vh31 ?_
              refine go_ri rfl rfl ?_
              exact ⟨(by unfold an_of; first | (rw [if_pos (by omega)]; done) | (rw [if_neg (by omega)]; done) | (rw [if_neg (by omega), if_pos (by omega)]; done) | (rw [if_neg (by omega), if_neg (by omega)]; done) | (rw [if_pos (by omega), if_pos (by omega)]; done) | (rw [if_pos (by omega), if_neg (by omega)]; done) | decide | (simp; omega)), x3⟩
          ·
            have c32 : ¬ w.toInt ≤ 4 := c
            refine go_iconst (v := (-1)) rfl (by decide) ?_
            refine go_ri rfl rfl ?_
            exact ⟨(by unfold an_of; first | (rw [if_pos (by omega)]; done) | (rw [if_neg (by omega)]; done) | (rw [if_neg (by omega), if_pos (by omega)]; done) | (rw [if_neg (by omega), if_neg (by omega)]; done) | (rw [if_pos (by omega), if_pos (by omega)]; done) | (rw [if_pos (by omega), if_neg (by omega)]; done) | decide | (simp; omega)), x3⟩
      ·
        have c33 : ¬ w.toInt < 10 := c
        refine go_s (pc' := 28) (lv' := [(0, .ref 1), (1, .int s), (2, .int w)]) (st' := [.ref 1]) rfl rfl rfl ?_
        refine go_get (v := .ref 41) rfl (ab_fo q2 p1_o_p1_C5_1 (by decide)) rfl ?_
        refine go_s (pc' := 32) (lv' := [(0, .ref 1), (1, .int s), (2, .int w)]) (st' := [.int w, .ref 41]) rfl rfl rfl ?_
        refine go_bipush (v := 10) rfl (by decide) ?_
        refine go_b2 (v := w - 10) rfl rfl (fun _ => rfl) rfl ?_
        refine go_cc rfl rfl (ab_cal_v (As := [.int (w - 10)]) (rest := []) rfl rfl rfl (ab_fo q2 p1_o_p1_C5_41 (by decide)) rfl rfl rfl rfl) (lv0 := [(0, .ref 41), (1, .int (w - 10))]) rfl ?_
        refine go_s (pc' := 1) (lv' := [(0, .ref 41), (1, .int (w - 10))]) (st' := [.int (w - 10)]) rfl rfl rfl ?_
        refine go_if (tgt := 16) rfl (by decide) (fun c => ?_) (fun c => ?_)
        ·
          have c34 : (w - 10).toInt < 0 := c
          refine go_iconst (v := 0) rfl (by decide) ?_
          refine go_rz rfl rfl (by decide) ?_
          show ab_go 999 ab_M_X9_of 38 [(0, .ref 1), (1, .int s), (2, .int w)] [.int 0] g1 _
          refine go_ift (tgt := 56) rfl (by decide) (by decide) ?_
          refine go_iconst (v := (-1)) rfl (by decide) ?_
          refine go_ri rfl rfl ?_
          exact ⟨(by unfold an_of; first | (rw [if_pos (by omega)]; done) | (rw [if_neg (by omega)]; done) | (rw [if_neg (by omega), if_pos (by omega)]; done) | (rw [if_neg (by omega), if_neg (by omega)]; done) | (rw [if_pos (by omega), if_pos (by omega)]; done) | (rw [if_pos (by omega), if_neg (by omega)]; done) | decide | (simp; omega)), x3⟩
        ·
          have c35 : ¬ (w - 10).toInt < 0 := c
          refine go_s (pc' := 5) (lv' := [(0, .ref 41), (1, .int (w - 10))]) (st' := [.int (w - 10)]) rfl rfl rfl ?_
          refine go_s (pc' := 6) (lv' := [(0, .ref 41), (1, .int (w - 10))]) (st' := [.ref 41, .int (w - 10)]) rfl rfl rfl ?_
          refine go_get (v := .int 0) rfl (ab_fo q2 p1_o_p1_C5_41 (by decide)) rfl ?_
          refine go_ic (tgt := 16) rfl (by decide) (fun c => ?_) (fun c => ?_)
          ·
            have c36 : 0 ≤ (w - 10).toInt := c
            refine go_iconst (v := 0) rfl (by decide) ?_
            refine go_rz rfl rfl (by decide) ?_
            show ab_go 999 ab_M_X9_of 38 [(0, .ref 1), (1, .int s), (2, .int w)] [.int 0] g1 _
            refine go_ift (tgt := 56) rfl (by decide) (by decide) ?_
            refine go_iconst (v := (-1)) rfl (by decide) ?_
            refine go_ri rfl rfl ?_
            exact ⟨(by unfold an_of; first | (rw [if_pos (by omega)]; done) | (rw [if_neg (by omega)]; done) | (rw [if_neg (by omega), if_pos (by omega)]; done) | (rw [if_neg (by omega), if_neg (by omega)]; done) | (rw [if_pos (by omega), if_pos (by omega)]; done) | (rw [if_pos (by omega), if_neg (by omega)]; done) | decide | (simp; omega)), x3⟩
          ·
            have c37 : ¬ 0 ≤ (w - 10).toInt := c
            exfalso; omega
    ·
      have c38 : ¬ s.toInt < 1 := c
      refine go_iconst (v := (-1)) rfl (by decide) ?_
      refine go_ri rfl rfl ?_
      exact ⟨(by unfold an_of; first | (rw [if_pos (by omega)]; done) | (rw [if_neg (by omega)]; done) | (rw [if_neg (by omega), if_pos (by omega)]; done) | (rw [if_neg (by omega), if_neg (by omega)]; done) | (rw [if_pos (by omega), if_pos (by omega)]; done) | (rw [if_pos (by omega), if_neg (by omega)]; done) | decide | (simp; omega)), x3⟩
set_option maxHeartbeats 16000000 in
set_option maxRecDepth 20000 in
theorem x_quarrels {g : ab_H} (q : ab_sim p1_Sx p1_Hx g) (w : Int32) : ab_go 999 ab_M_X9_quarrels 0 [(0, .ref 1), (1, .int w)] [] g (fun r g' => r = some (.int (an_quarrels w)) ∧ p1_X g g') := by
  have hz : g.1 = 120 := q.1.symm
  have x0 : p1_X g g := ⟨q.1.symm, q.2.1.symm, fun _ _ => rfl⟩
  refine go_s (pc' := 1) (lv' := [(0, .ref 1), (1, .int w)]) (st' := [.int w]) rfl rfl rfl ?_
  refine go_if (tgt := 9) rfl (by decide) (fun c => ?_) (fun c => ?_)
  ·
    have c1 : w.toInt < 0 := c
    refine go_iconst (v := (-1)) rfl (by decide) ?_
    refine go_ri rfl rfl ?_
    exact ⟨(by unfold an_quarrels; first | (rw [if_pos (by omega)]; done) | (rw [if_neg (by omega)]; done) | (rw [if_neg (by omega), if_pos (by omega)]; done) | (rw [if_neg (by omega), if_neg (by omega)]; done) | (rw [if_pos (by omega), if_pos (by omega)]; done) | (rw [if_pos (by omega), if_neg (by omega)]; done) | decide | (simp; omega)), x0⟩
  ·
    have c2 : ¬ w.toInt < 0 := c
    refine go_s (pc' := 5) (lv' := [(0, .ref 1), (1, .int w)]) (st' := [.int w]) rfl rfl rfl ?_
    refine go_iconst (v := 3) rfl (by decide) ?_
    refine go_ic (tgt := 11) rfl (by decide) (fun c => ?_) (fun c => ?_)
    ·
      have c3 : w.toInt ≤ 3 := c
      refine go_s (pc' := 12) (lv' := [(0, .ref 1), (1, .int w)]) (st' := [.ref 1]) rfl rfl rfl ?_
      refine go_c rfl rfl (ab_cal_v (As := []) (rest := []) rfl rfl rfl (ab_fo q p1_o_p1_Hx_1 (by decide)) rfl rfl rfl rfl) (lv0 := [(0, .ref 1)]) rfl (go_sim p1_R6 q) (fun r0 g4 hr => ?_)
      obtain ⟨rfl, z7, w0, q5, f0⟩ := hr
      have x6 := x0.next f0 z7 w0
      show ab_go 999 ab_M_X9_quarrels 15 [(0, .ref 1), (1, .int w)] [.int 1] g4 _
      refine go_ift (tgt := 21) rfl (by decide) (by decide) ?_
      refine go_s (pc' := 22) (lv' := [(0, .ref 1), (1, .int w)]) (st' := [.ref 1]) rfl rfl rfl ?_
      refine go_c rfl rfl (ab_cal_v (As := []) (rest := []) rfl rfl rfl (ab_fo q5 p1_o_p1_C6_1 (by decide)) rfl rfl rfl rfl) (lv0 := [(0, .ref 1)]) rfl (go_sim p1_R7 q5) (fun r0 g8 hr => ?_)
      obtain ⟨rfl, z11, w0, q9, f0⟩ := hr
      have x10 := x6.next f0 z11 w0
      show ab_go 999 ab_M_X9_quarrels 25 [(0, .ref 1), (1, .int w)] [] g8 _
      refine go_s (pc' := 26) (lv' := [(0, .ref 1), (1, .int w)]) (st' := [.int w]) rfl rfl rfl ?_
      by_cases c12 : w.toInt = 0
      ·
        refine go_tin (tgt := 52) 0 rfl c12 (by decide) rfl (by decide) ?_
        refine go_s (pc' := 53) (lv' := [(0, .ref 1), (1, .int w)]) (st' := [.ref 1]) rfl rfl rfl ?_
        refine go_get (v := .ref 12) rfl (ab_fo q9 p1_o_p1_C7_1 (by decide)) rfl ?_
        refine go_get (v := .int 0) rfl (ab_fo q9 p1_o_p1_C7_12 (by decide)) rfl ?_
        refine go_ri rfl rfl ?_
        exact ⟨(by unfold an_quarrels; first | (rw [if_pos (by omega)]; done) | (rw [if_neg (by omega)]; done) | (rw [if_neg (by omega), if_pos (by omega)]; done) | (rw [if_neg (by omega), if_neg (by omega)]; done) | (rw [if_pos (by omega), if_pos (by omega)]; done) | (rw [if_pos (by omega), if_neg (by omega)]; done) | decide | (simp; omega)), x10⟩
      ·
        by_cases c13 : w.toInt = 1
        ·
          refine go_tin (tgt := 60) 1 rfl c13 (by decide) rfl (by decide) ?_
          refine go_s (pc' := 61) (lv' := [(0, .ref 1), (1, .int w)]) (st' := [.ref 1]) rfl rfl rfl ?_
          refine go_get (v := .ref 12) rfl (ab_fo q9 p1_o_p1_C7_1 (by decide)) rfl ?_
          refine go_get (v := .int 0) rfl (ab_fo q9 p1_o_p1_C7_12 (by decide)) rfl ?_
          refine go_ri rfl rfl ?_
          exact ⟨(by unfold an_quarrels; first | (rw [if_pos (by omega)]; done) | (rw [if_neg (by omega)]; done) | (rw [if_neg (by omega), if_pos (by omega)]; done) | (rw [if_neg (by omega), if_neg (by omega)]; done) | (rw [if_pos (by omega), if_pos (by omega)]; done) | (rw [if_pos (by omega), if_neg (by omega)]; done) | decide | (simp; omega)), x10⟩
        ·
          by_cases c14 : w.toInt = 2
          ·
            refine go_tin (tgt := 68) 2 rfl c14 (by decide) rfl (by decide) ?_
            refine go_s (pc' := 69) (lv' := [(0, .ref 1), (1, .int w)]) (st' := [.ref 1]) rfl rfl rfl ?_
            refine go_get (v := .ref 12) rfl (ab_fo q9 p1_o_p1_C7_1 (by decide)) rfl ?_
            refine go_get (v := .int (-4)) rfl (ab_fo q9 p1_o_p1_C7_12 (by decide)) rfl ?_
            refine go_ri rfl rfl ?_
            exact ⟨(by unfold an_quarrels; first | (rw [if_pos (by omega)]; done) | (rw [if_neg (by omega)]; done) | (rw [if_neg (by omega), if_pos (by omega)]; done) | (rw [if_neg (by omega), if_neg (by omega)]; done) | (rw [if_pos (by omega), if_pos (by omega)]; done) | (rw [if_pos (by omega), if_neg (by omega)]; done) | decide | (simp; omega)), x10⟩
          ·
            refine go_tout (tgt := 76) rfl (by omega) (by decide) ?_
            refine go_s (pc' := 77) (lv' := [(0, .ref 1), (1, .int w)]) (st' := [.ref 1]) rfl rfl rfl ?_
            refine go_get (v := .ref 12) rfl (ab_fo q9 p1_o_p1_C7_1 (by decide)) rfl ?_
            refine go_get (v := .int (-4)) rfl (ab_fo q9 p1_o_p1_C7_12 (by decide)) rfl ?_
            refine go_ri rfl rfl ?_
            exact ⟨(by unfold an_quarrels; first | (rw [if_pos (by omega)]; done) | (rw [if_neg (by omega)]; done) | (rw [if_neg (by omega), if_pos (by omega)]; done) | (rw [if_neg (by omega), if_neg (by omega)]; done) | (rw [if_pos (by omega), if_pos (by omega)]; done) | (rw [if_pos (by omega), if_neg (by omega)]; done) | decide | (simp; omega)), x10⟩
    ·
      have c15 : ¬ w.toInt ≤ 3 := c
      refine go_iconst (v := (-1)) rfl (by decide) ?_
      refine go_ri rfl rfl ?_
      exact ⟨(by unfold an_quarrels; first | (rw [if_pos (by omega)]; done) | (rw [if_neg (by omega)]; done) | (rw [if_neg (by omega), if_pos (by omega)]; done) | (rw [if_neg (by omega), if_neg (by omega)]; done) | (rw [if_pos (by omega), if_pos (by omega)]; done) | (rw [if_pos (by omega), if_neg (by omega)]; done) | decide | (simp; omega)), x0⟩
set_option maxHeartbeats 16000000 in
set_option maxRecDepth 20000 in
theorem x_back {g : ab_H} (q : ab_sim p1_Sx p1_Hx g) (w : Int32) : ab_go 999 ab_M_X9_back 0 [(0, .ref 1), (1, .int w)] [] g (fun r g' => r = some (.int (an_back w)) ∧ p1_X g g') := by
  have hz : g.1 = 120 := q.1.symm
  have x0 : p1_X g g := ⟨q.1.symm, q.2.1.symm, fun _ _ => rfl⟩
  refine go_s (pc' := 1) (lv' := [(0, .ref 1), (1, .int w)]) (st' := [.int w]) rfl rfl rfl ?_
  refine go_if (tgt := 9) rfl (by decide) (fun c => ?_) (fun c => ?_)
  ·
    have c1 : w.toInt < 0 := c
    refine go_iconst (v := (-1)) rfl (by decide) ?_
    refine go_ri rfl rfl ?_
    exact ⟨(by unfold an_back; first | (rw [if_pos (by omega)]; done) | (rw [if_neg (by omega)]; done) | (rw [if_neg (by omega), if_pos (by omega)]; done) | (rw [if_neg (by omega), if_neg (by omega)]; done) | (rw [if_pos (by omega), if_pos (by omega)]; done) | (rw [if_pos (by omega), if_neg (by omega)]; done) | decide | (simp; omega)), x0⟩
  ·
    have c2 : ¬ w.toInt < 0 := c
    refine go_s (pc' := 5) (lv' := [(0, .ref 1), (1, .int w)]) (st' := [.int w]) rfl rfl rfl ?_
    refine go_iconst (v := 3) rfl (by decide) ?_
    refine go_ic (tgt := 11) rfl (by decide) (fun c => ?_) (fun c => ?_)
    ·
      have c3 : w.toInt ≤ 3 := c
      refine go_s (pc' := 12) (lv' := [(0, .ref 1), (1, .int w)]) (st' := [.ref 1]) rfl rfl rfl ?_
      refine go_c rfl rfl (ab_cal_v (As := []) (rest := []) rfl rfl rfl (ab_fo q p1_o_p1_Hx_1 (by decide)) rfl rfl rfl rfl) (lv0 := [(0, .ref 1)]) rfl (go_sim p1_R6 q) (fun r0 g4 hr => ?_)
      obtain ⟨rfl, z7, w0, q5, f0⟩ := hr
      have x6 := x0.next f0 z7 w0
      show ab_go 999 ab_M_X9_back 15 [(0, .ref 1), (1, .int w)] [.int 1] g4 _
      refine go_ift (tgt := 21) rfl (by decide) (by decide) ?_
      refine go_s (pc' := 22) (lv' := [(0, .ref 1), (1, .int w)]) (st' := [.ref 1]) rfl rfl rfl ?_
      refine go_c rfl rfl (ab_cal_v (As := []) (rest := []) rfl rfl rfl (ab_fo q5 p1_o_p1_C6_1 (by decide)) rfl rfl rfl rfl) (lv0 := [(0, .ref 1)]) rfl (go_sim p1_R7 q5) (fun r0 g8 hr => ?_)
      obtain ⟨rfl, z11, w0, q9, f0⟩ := hr
      have x10 := x6.next f0 z11 w0
      show ab_go 999 ab_M_X9_back 25 [(0, .ref 1), (1, .int w)] [] g8 _
      refine go_s (pc' := 26) (lv' := [(0, .ref 1), (1, .int w)]) (st' := [.int w]) rfl rfl rfl ?_
      by_cases c12 : w.toInt = 0
      ·
        refine go_tin (tgt := 52) 0 rfl c12 (by decide) rfl (by decide) ?_
        refine go_s (pc' := 53) (lv' := [(0, .ref 1), (1, .int w)]) (st' := [.ref 1]) rfl rfl rfl ?_
        refine go_get (v := .ref 12) rfl (ab_fo q9 p1_o_p1_C7_1 (by decide)) rfl ?_
        refine go_get (v := .int 0) rfl (ab_fo q9 p1_o_p1_C7_12 (by decide)) rfl ?_
        refine go_ri rfl rfl ?_
        exact ⟨(by unfold an_back; first | (rw [if_pos (by omega)]; done) | (rw [if_neg (by omega)]; done) | (rw [if_neg (by omega), if_pos (by omega)]; done) | (rw [if_neg (by omega), if_neg (by omega)]; done) | (rw [if_pos (by omega), if_pos (by omega)]; done) | (rw [if_pos (by omega), if_neg (by omega)]; done) | decide | (simp; omega)), x10⟩
      ·
        by_cases c13 : w.toInt = 1
        ·
          refine go_tin (tgt := 60) 1 rfl c13 (by decide) rfl (by decide) ?_
          refine go_s (pc' := 61) (lv' := [(0, .ref 1), (1, .int w)]) (st' := [.ref 1]) rfl rfl rfl ?_
          refine go_get (v := .ref 12) rfl (ab_fo q9 p1_o_p1_C7_1 (by decide)) rfl ?_
          refine go_get (v := .int (-4)) rfl (ab_fo q9 p1_o_p1_C7_12 (by decide)) rfl ?_
          refine go_ri rfl rfl ?_
          exact ⟨(by unfold an_back; first | (rw [if_pos (by omega)]; done) | (rw [if_neg (by omega)]; done) | (rw [if_neg (by omega), if_pos (by omega)]; done) | (rw [if_neg (by omega), if_neg (by omega)]; done) | (rw [if_pos (by omega), if_pos (by omega)]; done) | (rw [if_pos (by omega), if_neg (by omega)]; done) | decide | (simp; omega)), x10⟩
        ·
          by_cases c14 : w.toInt = 2
          ·
            refine go_tin (tgt := 68) 2 rfl c14 (by decide) rfl (by decide) ?_
            refine go_s (pc' := 69) (lv' := [(0, .ref 1), (1, .int w)]) (st' := [.ref 1]) rfl rfl rfl ?_
            refine go_get (v := .ref 12) rfl (ab_fo q9 p1_o_p1_C7_1 (by decide)) rfl ?_
            refine go_get (v := .int (-4)) rfl (ab_fo q9 p1_o_p1_C7_12 (by decide)) rfl ?_
            refine go_ri rfl rfl ?_
            exact ⟨(by unfold an_back; first | (rw [if_pos (by omega)]; done) | (rw [if_neg (by omega)]; done) | (rw [if_neg (by omega), if_pos (by omega)]; done) | (rw [if_neg (by omega), if_neg (by omega)]; done) | (rw [if_pos (by omega), if_pos (by omega)]; done) | (rw [if_pos (by omega), if_neg (by omega)]; done) | decide | (simp; omega)), x10⟩
          ·
            refine go_tout (tgt := 76) rfl (by omega) (by decide) ?_
            refine go_s (pc' := 77) (lv' := [(0, .ref 1), (1, .int w)]) (st' := [.ref 1]) rfl rfl rfl ?_
            refine go_get (v := .ref 12) rfl (ab_fo q9 p1_o_p1_C7_1 (by decide)) rfl ?_
            refine go_get (v := .int (-4)) rfl (ab_fo q9 p1_o_p1_C7_12 (by decide)) rfl ?_
            refine go_ri rfl rfl ?_
            exact ⟨(by unfold an_back; first | (rw [if_pos (by omega)]; done) | (rw [if_neg (by omega)]; done) | (rw [if_neg (by omega), if_pos (by omega)]; done) | (rw [if_neg (by omega), if_neg (by omega)]; done) | (rw [if_pos (by omega), if_pos (by omega)]; done) | (rw [if_pos (by omega), if_neg (by omega)]; done) | decide | (simp; omega)), x10⟩
    ·
      have c15 : ¬ w.toInt ≤ 3 := c
      refine go_iconst (v := (-1)) rfl (by decide) ?_
      refine go_ri rfl rfl ?_
      exact ⟨(by unfold an_back; first | (rw [if_pos (by omega)]; done) | (rw [if_neg (by omega)]; done) | (rw [if_neg (by omega), if_pos (by omega)]; done) | (rw [if_neg (by omega), if_neg (by omega)]; done) | (rw [if_pos (by omega), if_pos (by omega)]; done) | (rw [if_pos (by omega), if_neg (by omega)]; done) | decide | (simp; omega)), x0⟩
set_option maxHeartbeats 16000000 in
set_option maxRecDepth 20000 in
theorem x_stuck {g : ab_H} (q : ab_sim p1_Sx p1_Hx g) (w : Int32) : ab_go 999 ab_M_X9_stuck 0 [(0, .ref 1), (1, .int w)] [] g (fun r g' => r = some (.int (an_stuck w)) ∧ p1_X g g') := by
  have hz : g.1 = 120 := q.1.symm
  have x0 : p1_X g g := ⟨q.1.symm, q.2.1.symm, fun _ _ => rfl⟩
  refine go_s (pc' := 1) (lv' := [(0, .ref 1), (1, .int w)]) (st' := [.int w]) rfl rfl rfl ?_
  refine go_if (tgt := 9) rfl (by decide) (fun c => ?_) (fun c => ?_)
  ·
    have c1 : w.toInt < 0 := c
    refine go_iconst (v := (-1)) rfl (by decide) ?_
    refine go_ri rfl rfl ?_
    exact ⟨(by unfold an_stuck; first | (rw [if_pos (by omega)]; done) | (rw [if_neg (by omega)]; done) | (rw [if_neg (by omega), if_pos (by omega)]; done) | (rw [if_neg (by omega), if_neg (by omega)]; done) | (rw [if_pos (by omega), if_pos (by omega)]; done) | (rw [if_pos (by omega), if_neg (by omega)]; done) | decide | (simp; omega)), x0⟩
  ·
    have c2 : ¬ w.toInt < 0 := c
    refine go_s (pc' := 5) (lv' := [(0, .ref 1), (1, .int w)]) (st' := [.int w]) rfl rfl rfl ?_
    refine go_iconst (v := 2) rfl (by decide) ?_
    refine go_ic (tgt := 11) rfl (by decide) (fun c => ?_) (fun c => ?_)
    ·
      have c3 : w.toInt ≤ 2 := c
      refine go_s (pc' := 12) (lv' := [(0, .ref 1), (1, .int w)]) (st' := [.ref 1]) rfl rfl rfl ?_
      refine go_c rfl rfl (ab_cal_v (As := []) (rest := []) rfl rfl rfl (ab_fo q p1_o_p1_Hx_1 (by decide)) rfl rfl rfl rfl) (lv0 := [(0, .ref 1)]) rfl (go_sim p1_R5 q) (fun r0 g4 hr => ?_)
      obtain ⟨rfl, z7, w0, q5, f0⟩ := hr
      have x6 := x0.next f0 z7 w0
      show ab_go 999 ab_M_X9_stuck 15 [(0, .ref 1), (1, .int w)] [] g4 _
      refine go_s (pc' := 16) (lv' := [(0, .ref 1), (1, .int w)]) (st' := [.ref 1]) rfl rfl rfl ?_
      refine go_get (v := .ref 4) rfl (ab_fo q5 p1_o_p1_C5_1 (by decide)) rfl ?_
      refine go_get (v := .int 0) rfl (ab_fo q5 p1_o_p1_C5_4 (by decide)) rfl ?_
      refine go_ift (tgt := 28) rfl (by decide) (by decide) ?_
      refine go_s (pc' := 29) (lv' := [(0, .ref 1), (1, .int w)]) (st' := [.int w]) rfl rfl rfl ?_
      by_cases c8 : w.toInt = 0
      ·
        refine go_lk (tgt := 56) 0 rfl c8 (by decide) rfl (by decide) ?_
        refine go_s (pc' := 57) (lv' := [(0, .ref 1), (1, .int w)]) (st' := [.ref 1]) rfl rfl rfl ?_
        refine go_get (v := .ref 4) rfl (ab_fo q5 p1_o_p1_C5_1 (by decide)) rfl ?_
        refine go_c rfl rfl (ab_cal_v (As := []) (rest := []) rfl rfl rfl (ab_fo q5 p1_o_p1_C5_4 (by decide)) rfl rfl rfl rfl) (lv0 := [(0, .ref 4)]) rfl (go_sim p1_R8 q5) (fun r0 g9 hr => ?_)
        obtain ⟨rfl, z12, w0, q10, f0⟩ := hr
        have x11 := x6.next f0 z12 w0
        show ab_go 999 ab_M_X9_stuck 63 [(0, .ref 1), (1, .int w)] [.int 1] g9 _
        refine go_ri rfl rfl ?_
        exact ⟨(by unfold an_stuck; first | (rw [if_pos (by omega)]; done) | (rw [if_neg (by omega)]; done) | (rw [if_neg (by omega), if_pos (by omega)]; done) | (rw [if_neg (by omega), if_neg (by omega)]; done) | (rw [if_pos (by omega), if_pos (by omega)]; done) | (rw [if_pos (by omega), if_neg (by omega)]; done) | decide | (simp; omega)), x11⟩
      ·
        by_cases c13 : w.toInt = 1
        ·
          refine go_lk (tgt := 64) 1 rfl c13 (by decide) rfl (by decide) ?_
          refine go_s (pc' := 65) (lv' := [(0, .ref 1), (1, .int w)]) (st' := [.ref 1]) rfl rfl rfl ?_
          refine go_get (v := .ref 4) rfl (ab_fo q5 p1_o_p1_C5_1 (by decide)) rfl ?_
          refine go_c rfl rfl (ab_cal_v (As := []) (rest := []) rfl rfl rfl (ab_fo q5 p1_o_p1_C5_4 (by decide)) rfl rfl rfl rfl) (lv0 := [(0, .ref 4)]) rfl (go_sim p1_R9 q5) (fun r0 g14 hr => ?_)
          obtain ⟨rfl, z17, w0, q15, f0⟩ := hr
          have x16 := x6.next f0 z17 w0
          show ab_go 999 ab_M_X9_stuck 71 [(0, .ref 1), (1, .int w)] [.int 0] g14 _
          refine go_ri rfl rfl ?_
          exact ⟨(by unfold an_stuck; first | (rw [if_pos (by omega)]; done) | (rw [if_neg (by omega)]; done) | (rw [if_neg (by omega), if_pos (by omega)]; done) | (rw [if_neg (by omega), if_neg (by omega)]; done) | (rw [if_pos (by omega), if_pos (by omega)]; done) | (rw [if_pos (by omega), if_neg (by omega)]; done) | decide | (simp; omega)), x16⟩
        ·
          by_cases c18 : w.toInt = 2
          ·
            refine go_lk (tgt := 72) 2 rfl c18 (by decide) rfl (by decide) ?_
            refine go_s (pc' := 73) (lv' := [(0, .ref 1), (1, .int w)]) (st' := [.ref 1]) rfl rfl rfl ?_
            refine go_get (v := .ref 41) rfl (ab_fo q5 p1_o_p1_C5_1 (by decide)) rfl ?_
            refine go_get (v := .int 0) rfl (ab_fo q5 p1_o_p1_C5_41 (by decide)) rfl ?_
            refine go_s (pc' := 80) (lv' := [(0, .ref 1), (1, .int w)]) (st' := [.ref 1, .int 0]) rfl rfl rfl ?_
            refine go_get (v := .ref 4) rfl (ab_fo q5 p1_o_p1_C5_1 (by decide)) rfl ?_
            refine go_get (v := .int 0) rfl (ab_fo q5 p1_o_p1_C5_4 (by decide)) rfl ?_
            refine go_c rfl rfl rfl (lv0 := [(0, .int 0)]) rfl (go_sim p1_R10 q5) (fun r0 g19 hr => ?_)
            obtain ⟨rfl, z22, w0, q20, f0⟩ := hr
            have x21 := x6.next f0 z22 w0
            show ab_go 999 ab_M_X9_stuck 89 [(0, .ref 1), (1, .int w)] [.int 0, .int 0] g19 _
            refine go_b2 (v := 0) rfl rfl (fun _ => rfl) (by decide) ?_
            refine go_ri rfl rfl ?_
            exact ⟨(by unfold an_stuck; first | (rw [if_pos (by omega)]; done) | (rw [if_neg (by omega)]; done) | (rw [if_neg (by omega), if_pos (by omega)]; done) | (rw [if_neg (by omega), if_neg (by omega)]; done) | (rw [if_pos (by omega), if_pos (by omega)]; done) | (rw [if_pos (by omega), if_neg (by omega)]; done) | decide | (simp; omega)), x21⟩
          ·
            exfalso; omega
    ·
      have c23 : ¬ w.toInt ≤ 2 := c
      refine go_iconst (v := (-1)) rfl (by decide) ?_
      refine go_ri rfl rfl ?_
      exact ⟨(by unfold an_stuck; first | (rw [if_pos (by omega)]; done) | (rw [if_neg (by omega)]; done) | (rw [if_neg (by omega), if_pos (by omega)]; done) | (rw [if_neg (by omega), if_neg (by omega)]; done) | (rw [if_pos (by omega), if_pos (by omega)]; done) | (rw [if_pos (by omega), if_neg (by omega)]; done) | decide | (simp; omega)), x0⟩
set_option maxHeartbeats 16000000 in
set_option maxRecDepth 20000 in
theorem x_aim {g : ab_H} (q : ab_sim p1_Sx p1_Hx g) (w : Int32) (t : Int32) : ab_go 999 ab_M_X9_aim 0 [(0, .ref 1), (1, .int w), (2, .int t)] [] g (fun r g' => r = some (.int (-1)) ∧ p1_X g g') := by
  have hz : g.1 = 120 := q.1.symm
  have x0 : p1_X g g := ⟨q.1.symm, q.2.1.symm, fun _ _ => rfl⟩
  refine go_s (pc' := 1) (lv' := [(0, .ref 1), (1, .int w), (2, .int t)]) (st' := [.ref 1]) rfl rfl rfl ?_
  refine go_get (v := .ref 41) rfl (ab_fo q p1_o_p1_Hx_1 (by decide)) rfl ?_
  refine go_s (pc' := 5) (lv' := [(0, .ref 1), (1, .int w), (2, .int t)]) (st' := [.int w, .ref 41]) rfl rfl rfl ?_
  refine go_cc rfl rfl (ab_cal_v (As := [.int w]) (rest := []) rfl rfl rfl (ab_fo q p1_o_p1_Hx_41 (by decide)) rfl rfl rfl rfl) (lv0 := [(0, .ref 41), (1, .int w)]) rfl ?_
  refine go_s (pc' := 1) (lv' := [(0, .ref 41), (1, .int w)]) (st' := [.int w]) rfl rfl rfl ?_
  refine go_if (tgt := 16) rfl (by decide) (fun c => ?_) (fun c => ?_)
  ·
    have c1 : w.toInt < 0 := c
    refine go_iconst (v := 0) rfl (by decide) ?_
    refine go_rz rfl rfl (by decide) ?_
    show ab_go 999 ab_M_X9_aim 8 [(0, .ref 1), (1, .int w), (2, .int t)] [.int 0] g _
    refine go_ift (tgt := 28) rfl (by decide) (by decide) ?_
    refine go_iconst (v := (-1)) rfl (by decide) ?_
    refine go_ri rfl rfl ?_
    exact ⟨rfl, x0⟩
  ·
    have c2 : ¬ w.toInt < 0 := c
    refine go_s (pc' := 5) (lv' := [(0, .ref 41), (1, .int w)]) (st' := [.int w]) rfl rfl rfl ?_
    refine go_s (pc' := 6) (lv' := [(0, .ref 41), (1, .int w)]) (st' := [.ref 41, .int w]) rfl rfl rfl ?_
    refine go_get (v := .int 0) rfl (ab_fo q p1_o_p1_Hx_41 (by decide)) rfl ?_
    refine go_ic (tgt := 16) rfl (by decide) (fun c => ?_) (fun c => ?_)
    ·
      have c3 : 0 ≤ w.toInt := c
      refine go_iconst (v := 0) rfl (by decide) ?_
      refine go_rz rfl rfl (by decide) ?_
      show ab_go 999 ab_M_X9_aim 8 [(0, .ref 1), (1, .int w), (2, .int t)] [.int 0] g _
      refine go_ift (tgt := 28) rfl (by decide) (by decide) ?_
      refine go_iconst (v := (-1)) rfl (by decide) ?_
      refine go_ri rfl rfl ?_
      exact ⟨rfl, x0⟩
    ·
      have c4 : ¬ 0 ≤ w.toInt := c
      exfalso; omega
set_option maxHeartbeats 16000000 in
set_option maxRecDepth 20000 in
theorem x_makes {g : ab_H} (q : ab_sim p1_Sx p1_Hx g) (w : Int32) (t : Int32) : ab_go 999 ab_M_X9_makes 0 [(0, .ref 1), (1, .int w), (2, .int t)] [] g (fun r g' => r = some (.int (-1)) ∧ p1_X g g') := by
  have hz : g.1 = 120 := q.1.symm
  have x0 : p1_X g g := ⟨q.1.symm, q.2.1.symm, fun _ _ => rfl⟩
  refine go_s (pc' := 1) (lv' := [(0, .ref 1), (1, .int w), (2, .int t)]) (st' := [.ref 1]) rfl rfl rfl ?_
  refine go_get (v := .ref 41) rfl (ab_fo q p1_o_p1_Hx_1 (by decide)) rfl ?_
  refine go_s (pc' := 5) (lv' := [(0, .ref 1), (1, .int w), (2, .int t)]) (st' := [.int w, .ref 41]) rfl rfl rfl ?_
  refine go_cc rfl rfl (ab_cal_v (As := [.int w]) (rest := []) rfl rfl rfl (ab_fo q p1_o_p1_Hx_41 (by decide)) rfl rfl rfl rfl) (lv0 := [(0, .ref 41), (1, .int w)]) rfl ?_
  refine go_s (pc' := 1) (lv' := [(0, .ref 41), (1, .int w)]) (st' := [.ref 41]) rfl rfl rfl ?_
  refine go_s (pc' := 2) (lv' := [(0, .ref 41), (1, .int w)]) (st' := [.int w, .ref 41]) rfl rfl rfl ?_
  refine go_cc rfl rfl (ab_cal_v (As := [.int w]) (rest := []) rfl rfl rfl (ab_fo q p1_o_p1_Hx_41 (by decide)) rfl rfl rfl rfl) (lv0 := [(0, .ref 41), (1, .int w)]) rfl ?_
  refine go_s (pc' := 1) (lv' := [(0, .ref 41), (1, .int w)]) (st' := [.int w]) rfl rfl rfl ?_
  refine go_if (tgt := 16) rfl (by decide) (fun c => ?_) (fun c => ?_)
  ·
    have c1 : w.toInt < 0 := c
    refine go_iconst (v := 0) rfl (by decide) ?_
    refine go_rz rfl rfl (by decide) ?_
    show ab_go 998 ab_M_X3_isMade 5 [(0, .ref 41), (1, .int w)] [.int 0] g _
    refine go_ift (tgt := 21) rfl (by decide) (by decide) ?_
    refine go_iconst (v := 0) rfl (by decide) ?_
    refine go_rz rfl rfl (by decide) ?_
    show ab_go 999 ab_M_X9_makes 8 [(0, .ref 1), (1, .int w), (2, .int t)] [.int 0] g _
    refine go_ift (tgt := 26) rfl (by decide) (by decide) ?_
    refine go_iconst (v := (-1)) rfl (by decide) ?_
    refine go_ri rfl rfl ?_
    exact ⟨rfl, x0⟩
  ·
    have c2 : ¬ w.toInt < 0 := c
    refine go_s (pc' := 5) (lv' := [(0, .ref 41), (1, .int w)]) (st' := [.int w]) rfl rfl rfl ?_
    refine go_s (pc' := 6) (lv' := [(0, .ref 41), (1, .int w)]) (st' := [.ref 41, .int w]) rfl rfl rfl ?_
    refine go_get (v := .int 0) rfl (ab_fo q p1_o_p1_Hx_41 (by decide)) rfl ?_
    refine go_ic (tgt := 16) rfl (by decide) (fun c => ?_) (fun c => ?_)
    ·
      have c3 : 0 ≤ w.toInt := c
      refine go_iconst (v := 0) rfl (by decide) ?_
      refine go_rz rfl rfl (by decide) ?_
      show ab_go 998 ab_M_X3_isMade 5 [(0, .ref 41), (1, .int w)] [.int 0] g _
      refine go_ift (tgt := 21) rfl (by decide) (by decide) ?_
      refine go_iconst (v := 0) rfl (by decide) ?_
      refine go_rz rfl rfl (by decide) ?_
      show ab_go 999 ab_M_X9_makes 8 [(0, .ref 1), (1, .int w), (2, .int t)] [.int 0] g _
      refine go_ift (tgt := 26) rfl (by decide) (by decide) ?_
      refine go_iconst (v := (-1)) rfl (by decide) ?_
      refine go_ri rfl rfl ?_
      exact ⟨rfl, x0⟩
    ·
      have c4 : ¬ 0 ≤ w.toInt := c
      exfalso; omega
set_option maxHeartbeats 16000000 in
set_option maxRecDepth 20000 in
theorem x_judge {g : ab_H} (q : ab_sim p1_Sx p1_Hx g) (w : Int32) (k : Int32) (t : Int32) (f : Int32) (n : Int32) : ab_go 999 ab_M_X9_judge 0 [(0, .ref 1), (1, .int w), (2, .int k), (3, .int t), (4, .int f), (5, .int n)] [] g (fun r g' => r = some (.int (-1)) ∧ p1_X g g') := by
  have hz : g.1 = 120 := q.1.symm
  have x0 : p1_X g g := ⟨q.1.symm, q.2.1.symm, fun _ _ => rfl⟩
  refine go_s (pc' := 1) (lv' := [(0, .ref 1), (1, .int w), (2, .int k), (3, .int t), (4, .int f), (5, .int n)]) (st' := [.ref 1]) rfl rfl rfl ?_
  refine go_get (v := .ref 41) rfl (ab_fo q p1_o_p1_Hx_1 (by decide)) rfl ?_
  refine go_s (pc' := 5) (lv' := [(0, .ref 1), (1, .int w), (2, .int k), (3, .int t), (4, .int f), (5, .int n)]) (st' := [.int w, .ref 41]) rfl rfl rfl ?_
  refine go_cc rfl rfl (ab_cal_v (As := [.int w]) (rest := []) rfl rfl rfl (ab_fo q p1_o_p1_Hx_41 (by decide)) rfl rfl rfl rfl) (lv0 := [(0, .ref 41), (1, .int w)]) rfl ?_
  refine go_s (pc' := 1) (lv' := [(0, .ref 41), (1, .int w)]) (st' := [.ref 41]) rfl rfl rfl ?_
  refine go_s (pc' := 2) (lv' := [(0, .ref 41), (1, .int w)]) (st' := [.int w, .ref 41]) rfl rfl rfl ?_
  refine go_cc rfl rfl (ab_cal_v (As := [.int w]) (rest := []) rfl rfl rfl (ab_fo q p1_o_p1_Hx_41 (by decide)) rfl rfl rfl rfl) (lv0 := [(0, .ref 41), (1, .int w)]) rfl ?_
  refine go_s (pc' := 1) (lv' := [(0, .ref 41), (1, .int w)]) (st' := [.int w]) rfl rfl rfl ?_
  refine go_if (tgt := 16) rfl (by decide) (fun c => ?_) (fun c => ?_)
  ·
    have c1 : w.toInt < 0 := c
    refine go_iconst (v := 0) rfl (by decide) ?_
    refine go_rz rfl rfl (by decide) ?_
    show ab_go 998 ab_M_X3_isMade 5 [(0, .ref 41), (1, .int w)] [.int 0] g _
    refine go_ift (tgt := 21) rfl (by decide) (by decide) ?_
    refine go_iconst (v := 0) rfl (by decide) ?_
    refine go_rz rfl rfl (by decide) ?_
    show ab_go 999 ab_M_X9_judge 8 [(0, .ref 1), (1, .int w), (2, .int k), (3, .int t), (4, .int f), (5, .int n)] [.int 0] g _
    refine go_ift (tgt := 37) rfl (by decide) (by decide) ?_
    refine go_iconst (v := (-1)) rfl (by decide) ?_
    refine go_ri rfl rfl ?_
    exact ⟨rfl, x0⟩
  ·
    have c2 : ¬ w.toInt < 0 := c
    refine go_s (pc' := 5) (lv' := [(0, .ref 41), (1, .int w)]) (st' := [.int w]) rfl rfl rfl ?_
    refine go_s (pc' := 6) (lv' := [(0, .ref 41), (1, .int w)]) (st' := [.ref 41, .int w]) rfl rfl rfl ?_
    refine go_get (v := .int 0) rfl (ab_fo q p1_o_p1_Hx_41 (by decide)) rfl ?_
    refine go_ic (tgt := 16) rfl (by decide) (fun c => ?_) (fun c => ?_)
    ·
      have c3 : 0 ≤ w.toInt := c
      refine go_iconst (v := 0) rfl (by decide) ?_
      refine go_rz rfl rfl (by decide) ?_
      show ab_go 998 ab_M_X3_isMade 5 [(0, .ref 41), (1, .int w)] [.int 0] g _
      refine go_ift (tgt := 21) rfl (by decide) (by decide) ?_
      refine go_iconst (v := 0) rfl (by decide) ?_
      refine go_rz rfl rfl (by decide) ?_
      show ab_go 999 ab_M_X9_judge 8 [(0, .ref 1), (1, .int w), (2, .int k), (3, .int t), (4, .int f), (5, .int n)] [.int 0] g _
      refine go_ift (tgt := 37) rfl (by decide) (by decide) ?_
      refine go_iconst (v := (-1)) rfl (by decide) ?_
      refine go_ri rfl rfl ?_
      exact ⟨rfl, x0⟩
    ·
      have c4 : ¬ 0 ≤ w.toInt := c
      exfalso; omega
set_option maxHeartbeats 16000000 in
set_option maxRecDepth 20000 in
theorem x_cost {g : ab_H} (q : ab_sim p1_Sx p1_Hx g) : ab_go 999 ab_M_X9_cost 0 [(0, .ref 1)] [] g (fun r g' => r = some (.int 0) ∧ p1_X g g') := by
  have x0 : p1_X g g := ⟨q.1.symm, q.2.1.symm, fun _ _ => rfl⟩
  obtain ⟨n, r, hF, hx, hr, z, w0, q1, f0⟩ := go_sim p1_R11 q
  exact ⟨n, r, hF, hx, hr, x0.next f0 z w0⟩
set_option maxHeartbeats 16000000 in
set_option maxRecDepth 20000 in
theorem x_would {g : ab_H} (q : ab_sim p1_Sx p1_Hx g) (e : Int32) (f : Int32) : ab_go 999 ab_M_X9_would 0 [(0, .ref 1), (1, .int e), (2, .int f)] [] g (fun r g' => r = some (.int (-1)) ∧ p1_X g g') := by
  have hz : g.1 = 120 := q.1.symm
  have x0 : p1_X g g := ⟨q.1.symm, q.2.1.symm, fun _ _ => rfl⟩
  refine go_s (pc' := 1) (lv' := [(0, .ref 1), (1, .int e), (2, .int f)]) (st' := [.ref 1]) rfl rfl rfl ?_
  refine go_s (pc' := 2) (lv' := [(0, .ref 1), (1, .int e), (2, .int f)]) (st' := [.int e, .ref 1]) rfl rfl rfl ?_
  refine go_s (pc' := 3) (lv' := [(0, .ref 1), (1, .int e), (2, .int f)]) (st' := [.int f, .int e, .ref 1]) rfl rfl rfl ?_
  refine go_cc rfl rfl (ab_cal_v (As := [.int e, .int f]) (rest := []) rfl rfl rfl (ab_fo q p1_o_p1_Hx_1 (by decide)) rfl rfl rfl rfl) (lv0 := [(0, .ref 1), (1, .int e), (2, .int f)]) rfl ?_
  refine go_s (pc' := 1) (lv' := [(0, .ref 1), (1, .int e), (2, .int f)]) (st' := [.ref 1]) rfl rfl rfl ?_
  refine go_get (v := .ref 41) rfl (ab_fo q p1_o_p1_Hx_1 (by decide)) rfl ?_
  refine go_s (pc' := 5) (lv' := [(0, .ref 1), (1, .int e), (2, .int f)]) (st' := [.int e, .ref 41]) rfl rfl rfl ?_
  refine go_cc rfl rfl (ab_cal_v (As := [.int e]) (rest := []) rfl rfl rfl (ab_fo q p1_o_p1_Hx_41 (by decide)) rfl rfl rfl rfl) (lv0 := [(0, .ref 41), (1, .int e)]) rfl ?_
  refine go_s (pc' := 1) (lv' := [(0, .ref 41), (1, .int e)]) (st' := [.int e]) rfl rfl rfl ?_
  refine go_if (tgt := 16) rfl (by decide) (fun c => ?_) (fun c => ?_)
  ·
    have c1 : e.toInt < 0 := c
    refine go_iconst (v := 0) rfl (by decide) ?_
    refine go_rz rfl rfl (by decide) ?_
    show ab_go 998 ab_M_X9_refusedCure 8 [(0, .ref 1), (1, .int e), (2, .int f)] [.int 0] g _
    refine go_ift (tgt := 27) rfl (by decide) (by decide) ?_
    refine go_iconst (v := (-1)) rfl (by decide) ?_
    refine go_ri rfl rfl ?_
    show ab_go 999 ab_M_X9_would 6 [(0, .ref 1), (1, .int e), (2, .int f)] [.int (-1)] g _
    refine go_s (pc' := 7) (lv' := [(3, .int (-1)), (0, .ref 1), (1, .int e), (2, .int f)]) (st' := []) rfl rfl rfl ?_
    refine go_s (pc' := 8) (lv' := [(3, .int (-1)), (0, .ref 1), (1, .int e), (2, .int f)]) (st' := [.int (-1)]) rfl rfl rfl ?_
    refine go_iff rfl (by decide) ?_
    refine go_s (pc' := 12) (lv' := [(3, .int (-1)), (0, .ref 1), (1, .int e), (2, .int f)]) (st' := [.int (-1)]) rfl rfl rfl ?_
    refine go_ri rfl rfl ?_
    exact ⟨rfl, x0⟩
  ·
    have c2 : ¬ e.toInt < 0 := c
    refine go_s (pc' := 5) (lv' := [(0, .ref 41), (1, .int e)]) (st' := [.int e]) rfl rfl rfl ?_
    refine go_s (pc' := 6) (lv' := [(0, .ref 41), (1, .int e)]) (st' := [.ref 41, .int e]) rfl rfl rfl ?_
    refine go_get (v := .int 0) rfl (ab_fo q p1_o_p1_Hx_41 (by decide)) rfl ?_
    refine go_ic (tgt := 16) rfl (by decide) (fun c => ?_) (fun c => ?_)
    ·
      have c3 : 0 ≤ e.toInt := c
      refine go_iconst (v := 0) rfl (by decide) ?_
      refine go_rz rfl rfl (by decide) ?_
      show ab_go 998 ab_M_X9_refusedCure 8 [(0, .ref 1), (1, .int e), (2, .int f)] [.int 0] g _
      refine go_ift (tgt := 27) rfl (by decide) (by decide) ?_
      refine go_iconst (v := (-1)) rfl (by decide) ?_
      refine go_ri rfl rfl ?_
      show ab_go 999 ab_M_X9_would 6 [(0, .ref 1), (1, .int e), (2, .int f)] [.int (-1)] g _
      refine go_s (pc' := 7) (lv' := [(3, .int (-1)), (0, .ref 1), (1, .int e), (2, .int f)]) (st' := []) rfl rfl rfl ?_
      refine go_s (pc' := 8) (lv' := [(3, .int (-1)), (0, .ref 1), (1, .int e), (2, .int f)]) (st' := [.int (-1)]) rfl rfl rfl ?_
      refine go_iff rfl (by decide) ?_
      refine go_s (pc' := 12) (lv' := [(3, .int (-1)), (0, .ref 1), (1, .int e), (2, .int f)]) (st' := [.int (-1)]) rfl rfl rfl ?_
      refine go_ri rfl rfl ?_
      exact ⟨rfl, x0⟩
    ·
      have c4 : ¬ 0 ≤ e.toInt := c
      exfalso; omega
set_option maxHeartbeats 16000000 in
set_option maxRecDepth 20000 in
theorem x_cure {g : ab_H} (q : ab_sim p1_Sx p1_Hx g) (e : Int32) (f : Int32) : ab_go 999 ab_M_X9_cure 0 [(0, .ref 1), (1, .int e), (2, .int f)] [] g (fun r g' => r = some (.int (-1)) ∧ p1_X g g') := by
  have hz : g.1 = 120 := q.1.symm
  have x0 : p1_X g g := ⟨q.1.symm, q.2.1.symm, fun _ _ => rfl⟩
  refine go_s (pc' := 1) (lv' := [(0, .ref 1), (1, .int e), (2, .int f)]) (st' := [.ref 1]) rfl rfl rfl ?_
  refine go_s (pc' := 2) (lv' := [(0, .ref 1), (1, .int e), (2, .int f)]) (st' := [.int e, .ref 1]) rfl rfl rfl ?_
  refine go_s (pc' := 3) (lv' := [(0, .ref 1), (1, .int e), (2, .int f)]) (st' := [.int f, .int e, .ref 1]) rfl rfl rfl ?_
  refine go_cc rfl rfl (ab_cal_v (As := [.int e, .int f]) (rest := []) rfl rfl rfl (ab_fo q p1_o_p1_Hx_1 (by decide)) rfl rfl rfl rfl) (lv0 := [(0, .ref 1), (1, .int e), (2, .int f)]) rfl ?_
  refine go_s (pc' := 1) (lv' := [(0, .ref 1), (1, .int e), (2, .int f)]) (st' := [.ref 1]) rfl rfl rfl ?_
  refine go_get (v := .ref 41) rfl (ab_fo q p1_o_p1_Hx_1 (by decide)) rfl ?_
  refine go_s (pc' := 5) (lv' := [(0, .ref 1), (1, .int e), (2, .int f)]) (st' := [.int e, .ref 41]) rfl rfl rfl ?_
  refine go_cc rfl rfl (ab_cal_v (As := [.int e]) (rest := []) rfl rfl rfl (ab_fo q p1_o_p1_Hx_41 (by decide)) rfl rfl rfl rfl) (lv0 := [(0, .ref 41), (1, .int e)]) rfl ?_
  refine go_s (pc' := 1) (lv' := [(0, .ref 41), (1, .int e)]) (st' := [.int e]) rfl rfl rfl ?_
  refine go_if (tgt := 16) rfl (by decide) (fun c => ?_) (fun c => ?_)
  ·
    have c1 : e.toInt < 0 := c
    refine go_iconst (v := 0) rfl (by decide) ?_
    refine go_rz rfl rfl (by decide) ?_
    show ab_go 998 ab_M_X9_refusedCure 8 [(0, .ref 1), (1, .int e), (2, .int f)] [.int 0] g _
    refine go_ift (tgt := 27) rfl (by decide) (by decide) ?_
    refine go_iconst (v := (-1)) rfl (by decide) ?_
    refine go_ri rfl rfl ?_
    show ab_go 999 ab_M_X9_cure 6 [(0, .ref 1), (1, .int e), (2, .int f)] [.int (-1)] g _
    refine go_s (pc' := 7) (lv' := [(3, .int (-1)), (0, .ref 1), (1, .int e), (2, .int f)]) (st' := []) rfl rfl rfl ?_
    refine go_s (pc' := 8) (lv' := [(3, .int (-1)), (0, .ref 1), (1, .int e), (2, .int f)]) (st' := [.int (-1)]) rfl rfl rfl ?_
    refine go_iff rfl (by decide) ?_
    refine go_s (pc' := 12) (lv' := [(3, .int (-1)), (0, .ref 1), (1, .int e), (2, .int f)]) (st' := [.int (-1)]) rfl rfl rfl ?_
    refine go_ri rfl rfl ?_
    exact ⟨rfl, x0⟩
  ·
    have c2 : ¬ e.toInt < 0 := c
    refine go_s (pc' := 5) (lv' := [(0, .ref 41), (1, .int e)]) (st' := [.int e]) rfl rfl rfl ?_
    refine go_s (pc' := 6) (lv' := [(0, .ref 41), (1, .int e)]) (st' := [.ref 41, .int e]) rfl rfl rfl ?_
    refine go_get (v := .int 0) rfl (ab_fo q p1_o_p1_Hx_41 (by decide)) rfl ?_
    refine go_ic (tgt := 16) rfl (by decide) (fun c => ?_) (fun c => ?_)
    ·
      have c3 : 0 ≤ e.toInt := c
      refine go_iconst (v := 0) rfl (by decide) ?_
      refine go_rz rfl rfl (by decide) ?_
      show ab_go 998 ab_M_X9_refusedCure 8 [(0, .ref 1), (1, .int e), (2, .int f)] [.int 0] g _
      refine go_ift (tgt := 27) rfl (by decide) (by decide) ?_
      refine go_iconst (v := (-1)) rfl (by decide) ?_
      refine go_ri rfl rfl ?_
      show ab_go 999 ab_M_X9_cure 6 [(0, .ref 1), (1, .int e), (2, .int f)] [.int (-1)] g _
      refine go_s (pc' := 7) (lv' := [(3, .int (-1)), (0, .ref 1), (1, .int e), (2, .int f)]) (st' := []) rfl rfl rfl ?_
      refine go_s (pc' := 8) (lv' := [(3, .int (-1)), (0, .ref 1), (1, .int e), (2, .int f)]) (st' := [.int (-1)]) rfl rfl rfl ?_
      refine go_iff rfl (by decide) ?_
      refine go_s (pc' := 12) (lv' := [(3, .int (-1)), (0, .ref 1), (1, .int e), (2, .int f)]) (st' := [.int (-1)]) rfl rfl rfl ?_
      refine go_ri rfl rfl ?_
      exact ⟨rfl, x0⟩
    ·
      have c4 : ¬ 0 ≤ e.toInt := c
      exfalso; omega
set_option maxHeartbeats 16000000 in
set_option maxRecDepth 20000 in
theorem x_cures {g : ab_H} (q : ab_sim p1_Sx p1_Hx g) (w : Int32) : ab_go 999 ab_M_X9_cures 0 [(0, .ref 1), (1, .int w)] [] g (fun r g' => r = some (.int (an_cures w)) ∧ p1_X g g') := by
  have hz : g.1 = 120 := q.1.symm
  have x0 : p1_X g g := ⟨q.1.symm, q.2.1.symm, fun _ _ => rfl⟩
  refine go_s (pc' := 1) (lv' := [(0, .ref 1), (1, .int w)]) (st' := [.int w]) rfl rfl rfl ?_
  refine go_if (tgt := 9) rfl (by decide) (fun c => ?_) (fun c => ?_)
  ·
    have c1 : w.toInt < 0 := c
    refine go_iconst (v := (-1)) rfl (by decide) ?_
    refine go_ri rfl rfl ?_
    exact ⟨(by unfold an_cures; first | (rw [if_pos (by omega)]; done) | (rw [if_neg (by omega)]; done) | (rw [if_neg (by omega), if_pos (by omega)]; done) | (rw [if_neg (by omega), if_neg (by omega)]; done) | (rw [if_pos (by omega), if_pos (by omega)]; done) | (rw [if_pos (by omega), if_neg (by omega)]; done) | decide | (simp; omega)), x0⟩
  ·
    have c2 : ¬ w.toInt < 0 := c
    refine go_s (pc' := 5) (lv' := [(0, .ref 1), (1, .int w)]) (st' := [.int w]) rfl rfl rfl ?_
    refine go_iconst (v := 1) rfl (by decide) ?_
    refine go_ic (tgt := 11) rfl (by decide) (fun c => ?_) (fun c => ?_)
    ·
      have c3 : w.toInt ≤ 1 := c
      refine go_s (pc' := 12) (lv' := [(0, .ref 1), (1, .int w)]) (st' := [.ref 1]) rfl rfl rfl ?_
      refine go_c rfl rfl (ab_cal_v (As := []) (rest := []) rfl rfl rfl (ab_fo q p1_o_p1_Hx_1 (by decide)) rfl rfl rfl rfl) (lv0 := [(0, .ref 1)]) rfl (go_sim p1_R6 q) (fun r0 g4 hr => ?_)
      obtain ⟨rfl, z7, w0, q5, f0⟩ := hr
      have x6 := x0.next f0 z7 w0
      show ab_go 999 ab_M_X9_cures 15 [(0, .ref 1), (1, .int w)] [.int 1] g4 _
      refine go_ift (tgt := 21) rfl (by decide) (by decide) ?_
      refine go_s (pc' := 22) (lv' := [(0, .ref 1), (1, .int w)]) (st' := [.ref 1]) rfl rfl rfl ?_
      refine go_get (v := .ref 41) rfl (ab_fo q5 p1_o_p1_C6_1 (by decide)) rfl ?_
      refine go_cc rfl rfl (ab_cal_v (As := []) (rest := []) rfl rfl rfl (ab_fo q5 p1_o_p1_C6_41 (by decide)) rfl rfl rfl rfl) (lv0 := [(0, .ref 41)]) rfl ?_
      refine go_s (pc' := 1) (lv' := [(0, .ref 41)]) (st' := [.ref 41]) rfl rfl rfl ?_
      refine go_get (v := .int 0) rfl (ab_fo q5 p1_o_p1_C6_41 (by decide)) rfl ?_
      refine go_bipush (v := 6) rfl (by decide) ?_
      refine go_icf rfl (by decide) ?_
      refine go_s (pc' := 10) (lv' := [(0, .ref 41)]) (st' := [.ref 41]) rfl rfl rfl ?_
      refine go_get (v := .int 0) rfl (ab_fo q5 p1_o_p1_C6_41 (by decide)) rfl ?_
      refine go_iconst (v := 2) rfl (by decide) ?_
      refine go_b2 (v := 2) rfl rfl (fun _ => rfl) (by decide) ?_
      refine go_bipush (v := 16) rfl (by decide) ?_
      refine go_icf rfl (by decide) ?_
      refine go_s (pc' := 21) (lv' := [(0, .ref 41)]) (st' := [.ref 41]) rfl rfl rfl ?_
      refine go_get (v := .int 0) rfl (ab_fo q5 p1_o_p1_C6_41 (by decide)) rfl ?_
      refine go_iconst (v := 2) rfl (by decide) ?_
      refine go_b2 (v := 2) rfl rfl (fun _ => rfl) (by decide) ?_
      refine go_bipush (v := 20) rfl (by decide) ?_
      refine go_icf rfl (by decide) ?_
      refine go_iconst (v := 1) rfl (by decide) ?_
      refine go_goto (tgt := 36) rfl (by decide) ?_
      refine go_rz rfl rfl (by decide) ?_
      show ab_go 999 ab_M_X9_cures 28 [(0, .ref 1), (1, .int w)] [.int 1] g4 _
      refine go_ift (tgt := 34) rfl (by decide) (by decide) ?_
      refine go_s (pc' := 35) (lv' := [(0, .ref 1), (1, .int w)]) (st' := [.int w]) rfl rfl rfl ?_
      refine go_if (tgt := 55) rfl (by decide) (fun c => ?_) (fun c => ?_)
      ·
        have c8 : ¬ w.toInt = 0 := c
        refine go_s (pc' := 56) (lv' := [(0, .ref 1), (1, .int w)]) (st' := [.ref 1]) rfl rfl rfl ?_
        refine go_get (v := .int (-100)) rfl (ab_fo q5 p1_o_p1_C6_1 (by decide)) rfl ?_
        refine go_bipush (v := (-100)) rfl (by decide) ?_
        refine go_ict (tgt := 68) rfl (by decide) (by decide) ?_
        refine go_iconst (v := 0) rfl (by decide) ?_
        refine go_s (pc' := 70) (lv' := [(2, .int 0), (0, .ref 1), (1, .int w)]) (st' := []) rfl rfl rfl ?_
        refine go_s (pc' := 71) (lv' := [(2, .int 0), (0, .ref 1), (1, .int w)]) (st' := [.int 0]) rfl rfl rfl ?_
        refine go_iff rfl (by decide) ?_
        refine go_s (pc' := 75) (lv' := [(2, .int 0), (0, .ref 1), (1, .int w)]) (st' := [.ref 1]) rfl rfl rfl ?_
        refine go_s (pc' := 76) (lv' := [(2, .int 0), (0, .ref 1), (1, .int w)]) (st' := [.int w, .ref 1]) rfl rfl rfl ?_
        refine go_iconst (v := 1) rfl (by decide) ?_
        refine go_ic (tgt := 84) rfl (by decide) (fun c => ?_) (fun c => ?_)
        ·
          have c9 : ¬ w.toInt = 1 := c
          exfalso; omega
        ·
          have c10 : ¬ (¬ w.toInt = 1) := c
          refine go_iconst (v := 1) rfl (by decide) ?_
          refine go_goto (tgt := 85) rfl (by decide) ?_
          refine go_c rfl rfl (ab_cal_v (As := [.int 1]) (rest := []) rfl rfl rfl (ab_fo q5 p1_o_p1_C6_1 (by decide)) rfl rfl rfl rfl) (lv0 := [(0, .ref 1), (1, .int 1)]) rfl (go_sim p1_R12 q5) (fun r0 g11 hr => ?_)
          obtain ⟨rfl, z14, w0, q12, f0⟩ := hr
          have x13 := x6.next f0 z14 w0
          show ab_go 999 ab_M_X9_cures 88 [(2, .int 0), (0, .ref 1), (1, .int w)] [] g11 _
          refine go_s (pc' := 89) (lv' := [(2, .int 0), (0, .ref 1), (1, .int w)]) (st' := [.int w]) rfl rfl rfl ?_
          refine go_if (tgt := 99) rfl (by decide) (fun c => ?_) (fun c => ?_)
          ·
            have c15 : ¬ w.toInt = 0 := c
            refine go_s (pc' := 100) (lv' := [(2, .int 0), (0, .ref 1), (1, .int w)]) (st' := [.ref 1]) rfl rfl rfl ?_
            refine go_get (v := .int 0) rfl (ab_fo q12 p1_o_p1_C12_1 (by decide)) rfl ?_
            refine go_ri rfl rfl ?_
            exact ⟨(by unfold an_cures; first | (rw [if_pos (by omega)]; done) | (rw [if_neg (by omega)]; done) | (rw [if_neg (by omega), if_pos (by omega)]; done) | (rw [if_neg (by omega), if_neg (by omega)]; done) | (rw [if_pos (by omega), if_pos (by omega)]; done) | (rw [if_pos (by omega), if_neg (by omega)]; done) | decide | (simp; omega)), x13⟩
          ·
            have c16 : ¬ (¬ w.toInt = 0) := c
            exfalso; omega
      ·
        have c17 : ¬ (¬ w.toInt = 0) := c
        refine go_s (pc' := 39) (lv' := [(0, .ref 1), (1, .int w)]) (st' := [.ref 1]) rfl rfl rfl ?_
        refine go_get (v := .int (-100)) rfl (ab_fo q5 p1_o_p1_C6_1 (by decide)) rfl ?_
        refine go_bipush (v := (-100)) rfl (by decide) ?_
        refine go_ict (tgt := 51) rfl (by decide) (by decide) ?_
        refine go_iconst (v := 0) rfl (by decide) ?_
        refine go_goto (tgt := 69) rfl (by decide) ?_
        refine go_s (pc' := 70) (lv' := [(2, .int 0), (0, .ref 1), (1, .int w)]) (st' := []) rfl rfl rfl ?_
        refine go_s (pc' := 71) (lv' := [(2, .int 0), (0, .ref 1), (1, .int w)]) (st' := [.int 0]) rfl rfl rfl ?_
        refine go_iff rfl (by decide) ?_
        refine go_s (pc' := 75) (lv' := [(2, .int 0), (0, .ref 1), (1, .int w)]) (st' := [.ref 1]) rfl rfl rfl ?_
        refine go_s (pc' := 76) (lv' := [(2, .int 0), (0, .ref 1), (1, .int w)]) (st' := [.int w, .ref 1]) rfl rfl rfl ?_
        refine go_iconst (v := 1) rfl (by decide) ?_
        refine go_ic (tgt := 84) rfl (by decide) (fun c => ?_) (fun c => ?_)
        ·
          have c18 : ¬ w.toInt = 1 := c
          refine go_iconst (v := 0) rfl (by decide) ?_
          refine go_c rfl rfl (ab_cal_v (As := [.int 0]) (rest := []) rfl rfl rfl (ab_fo q5 p1_o_p1_C6_1 (by decide)) rfl rfl rfl rfl) (lv0 := [(0, .ref 1), (1, .int 0)]) rfl (go_sim p1_R13 q5) (fun r0 g19 hr => ?_)
          obtain ⟨rfl, z22, w0, q20, f0⟩ := hr
          have x21 := x6.next f0 z22 w0
          show ab_go 999 ab_M_X9_cures 88 [(2, .int 0), (0, .ref 1), (1, .int w)] [] g19 _
          refine go_s (pc' := 89) (lv' := [(2, .int 0), (0, .ref 1), (1, .int w)]) (st' := [.int w]) rfl rfl rfl ?_
          refine go_if (tgt := 99) rfl (by decide) (fun c => ?_) (fun c => ?_)
          ·
            have c23 : ¬ w.toInt = 0 := c
            exfalso; omega
          ·
            have c24 : ¬ (¬ w.toInt = 0) := c
            refine go_s (pc' := 93) (lv' := [(2, .int 0), (0, .ref 1), (1, .int w)]) (st' := [.ref 1]) rfl rfl rfl ?_
            refine go_get (v := .int (-4)) rfl (ab_fo q20 p1_o_p1_C13_1 (by decide)) rfl ?_
            refine go_goto (tgt := 103) rfl (by decide) ?_
            refine go_ri rfl rfl ?_
            exact ⟨(by unfold an_cures; first | (rw [if_pos (by omega)]; done) | (rw [if_neg (by omega)]; done) | (rw [if_neg (by omega), if_pos (by omega)]; done) | (rw [if_neg (by omega), if_neg (by omega)]; done) | (rw [if_pos (by omega), if_pos (by omega)]; done) | (rw [if_pos (by omega), if_neg (by omega)]; done) | decide | (simp; omega)), x21⟩
        ·
          have c25 : ¬ (¬ w.toInt = 1) := c
          exfalso; omega
    ·
      have c26 : ¬ w.toInt ≤ 1 := c
      refine go_iconst (v := (-1)) rfl (by decide) ?_
      refine go_ri rfl rfl ?_
      exact ⟨(by unfold an_cures; first | (rw [if_pos (by omega)]; done) | (rw [if_neg (by omega)]; done) | (rw [if_neg (by omega), if_pos (by omega)]; done) | (rw [if_neg (by omega), if_neg (by omega)]; done) | (rw [if_pos (by omega), if_pos (by omega)]; done) | (rw [if_pos (by omega), if_neg (by omega)]; done) | decide | (simp; omega)), x0⟩
set_option maxHeartbeats 16000000 in
set_option maxRecDepth 20000 in
theorem x_delay {g : ab_H} (q : ab_sim p1_Sx p1_Hx g) (e : Int32) (v : Int32) : ab_go 999 ab_M_X9_delay 0 [(0, .ref 1), (1, .int e), (2, .int v)] [] g (fun r g' => r = some (.int (-1)) ∧ p1_X g g') := by
  have hz : g.1 = 120 := q.1.symm
  have x0 : p1_X g g := ⟨q.1.symm, q.2.1.symm, fun _ _ => rfl⟩
  refine go_s (pc' := 1) (lv' := [(0, .ref 1), (1, .int e), (2, .int v)]) (st' := [.ref 1]) rfl rfl rfl ?_
  refine go_get (v := .ref 41) rfl (ab_fo q p1_o_p1_Hx_1 (by decide)) rfl ?_
  refine go_s (pc' := 5) (lv' := [(0, .ref 1), (1, .int e), (2, .int v)]) (st' := [.int e, .ref 41]) rfl rfl rfl ?_
  refine go_cc rfl rfl (ab_cal_v (As := [.int e]) (rest := []) rfl rfl rfl (ab_fo q p1_o_p1_Hx_41 (by decide)) rfl rfl rfl rfl) (lv0 := [(0, .ref 41), (1, .int e)]) rfl ?_
  refine go_s (pc' := 1) (lv' := [(0, .ref 41), (1, .int e)]) (st' := [.int e]) rfl rfl rfl ?_
  refine go_if (tgt := 16) rfl (by decide) (fun c => ?_) (fun c => ?_)
  ·
    have c1 : e.toInt < 0 := c
    refine go_iconst (v := 0) rfl (by decide) ?_
    refine go_rz rfl rfl (by decide) ?_
    show ab_go 999 ab_M_X9_delay 8 [(0, .ref 1), (1, .int e), (2, .int v)] [.int 0] g _
    refine go_ift (tgt := 22) rfl (by decide) (by decide) ?_
    refine go_iconst (v := (-1)) rfl (by decide) ?_
    refine go_ri rfl rfl ?_
    exact ⟨rfl, x0⟩
  ·
    have c2 : ¬ e.toInt < 0 := c
    refine go_s (pc' := 5) (lv' := [(0, .ref 41), (1, .int e)]) (st' := [.int e]) rfl rfl rfl ?_
    refine go_s (pc' := 6) (lv' := [(0, .ref 41), (1, .int e)]) (st' := [.ref 41, .int e]) rfl rfl rfl ?_
    refine go_get (v := .int 0) rfl (ab_fo q p1_o_p1_Hx_41 (by decide)) rfl ?_
    refine go_ic (tgt := 16) rfl (by decide) (fun c => ?_) (fun c => ?_)
    ·
      have c3 : 0 ≤ e.toInt := c
      refine go_iconst (v := 0) rfl (by decide) ?_
      refine go_rz rfl rfl (by decide) ?_
      show ab_go 999 ab_M_X9_delay 8 [(0, .ref 1), (1, .int e), (2, .int v)] [.int 0] g _
      refine go_ift (tgt := 22) rfl (by decide) (by decide) ?_
      refine go_iconst (v := (-1)) rfl (by decide) ?_
      refine go_ri rfl rfl ?_
      exact ⟨rfl, x0⟩
    ·
      have c4 : ¬ 0 ≤ e.toInt := c
      exfalso; omega
set_option maxHeartbeats 16000000 in
set_option maxRecDepth 20000 in
theorem x_beat {g : ab_H} (q : ab_sim p1_Sx p1_Hx g) (w : Int32) : ab_go 999 ab_M_X9_beat 0 [(0, .ref 1), (1, .int w)] [] g (fun r g' => r = some (.int (an_beat w)) ∧ p1_X g g') := by
  have hz : g.1 = 120 := q.1.symm
  have x0 : p1_X g g := ⟨q.1.symm, q.2.1.symm, fun _ _ => rfl⟩
  refine go_s (pc' := 1) (lv' := [(0, .ref 1), (1, .int w)]) (st' := [.int w]) rfl rfl rfl ?_
  refine go_if (tgt := 9) rfl (by decide) (fun c => ?_) (fun c => ?_)
  ·
    have c1 : w.toInt < 0 := c
    refine go_iconst (v := (-1)) rfl (by decide) ?_
    refine go_ri rfl rfl ?_
    exact ⟨(by unfold an_beat; first | (rw [if_pos (by omega)]; done) | (rw [if_neg (by omega)]; done) | (rw [if_neg (by omega), if_pos (by omega)]; done) | (rw [if_neg (by omega), if_neg (by omega)]; done) | (rw [if_pos (by omega), if_pos (by omega)]; done) | (rw [if_pos (by omega), if_neg (by omega)]; done) | decide | (simp; omega)), x0⟩
  ·
    have c2 : ¬ w.toInt < 0 := c
    refine go_s (pc' := 5) (lv' := [(0, .ref 1), (1, .int w)]) (st' := [.int w]) rfl rfl rfl ?_
    refine go_iconst (v := 2) rfl (by decide) ?_
    refine go_ic (tgt := 11) rfl (by decide) (fun c => ?_) (fun c => ?_)
    ·
      have c3 : w.toInt ≤ 2 := c
      refine go_s (pc' := 12) (lv' := [(0, .ref 1), (1, .int w)]) (st' := [.ref 1]) rfl rfl rfl ?_
      refine go_c rfl rfl (ab_cal_v (As := []) (rest := []) rfl rfl rfl (ab_fo q p1_o_p1_Hx_1 (by decide)) rfl rfl rfl rfl) (lv0 := [(0, .ref 1)]) rfl (go_sim p1_R14 q) (fun r0 g4 hr => ?_)
      obtain ⟨rfl, z7, w0, q5, f0⟩ := hr
      have x6 := x0.next f0 z7 w0
      show ab_go 999 ab_M_X9_beat 15 [(0, .ref 1), (1, .int w)] [] g4 _
      refine go_s (pc' := 16) (lv' := [(0, .ref 1), (1, .int w)]) (st' := [.ref 1]) rfl rfl rfl ?_
      refine go_get (v := .ref 30) rfl (ab_fo q5 p1_o_p1_C14_1 (by decide)) rfl ?_
      refine go_get (v := .int 1) rfl (ab_fo q5 p1_o_p1_C14_30 (by decide)) rfl ?_
      refine go_ift (tgt := 28) rfl (by decide) (by decide) ?_
      refine go_s (pc' := 29) (lv' := [(0, .ref 1), (1, .int w)]) (st' := [.ref 1]) rfl rfl rfl ?_
      refine go_get (v := .ref 30) rfl (ab_fo q5 p1_o_p1_C14_1 (by decide)) rfl ?_
      refine go_get (v := .int 0) rfl (ab_fo q5 p1_o_p1_C14_30 (by decide)) rfl ?_
      refine go_iff rfl (by decide) ?_
      refine go_bipush (v := (-4)) rfl (by decide) ?_
      refine go_ri rfl rfl ?_
      exact ⟨(by unfold an_beat; first | (rw [if_pos (by omega)]; done) | (rw [if_neg (by omega)]; done) | (rw [if_neg (by omega), if_pos (by omega)]; done) | (rw [if_neg (by omega), if_neg (by omega)]; done) | (rw [if_pos (by omega), if_pos (by omega)]; done) | (rw [if_pos (by omega), if_neg (by omega)]; done) | decide | (simp; omega)), x6⟩
    ·
      have c8 : ¬ w.toInt ≤ 2 := c
      refine go_iconst (v := (-1)) rfl (by decide) ?_
      refine go_ri rfl rfl ?_
      exact ⟨(by unfold an_beat; first | (rw [if_pos (by omega)]; done) | (rw [if_neg (by omega)]; done) | (rw [if_neg (by omega), if_pos (by omega)]; done) | (rw [if_neg (by omega), if_neg (by omega)]; done) | (rw [if_pos (by omega), if_pos (by omega)]; done) | (rw [if_pos (by omega), if_neg (by omega)]; done) | decide | (simp; omega)), x0⟩
set_option maxHeartbeats 16000000 in
set_option maxRecDepth 20000 in
theorem x_time {g : ab_H} (q : ab_sim p1_Sx p1_Hx g) (e : Int32) (k : Int32) : ab_go 999 ab_M_X9_time 0 [(0, .ref 1), (1, .int e), (2, .int k)] [] g (fun r g' => r = some (.int (-1)) ∧ p1_X g g') := by
  have hz : g.1 = 120 := q.1.symm
  have x0 : p1_X g g := ⟨q.1.symm, q.2.1.symm, fun _ _ => rfl⟩
  refine go_s (pc' := 1) (lv' := [(0, .ref 1), (1, .int e), (2, .int k)]) (st' := [.ref 1]) rfl rfl rfl ?_
  refine go_get (v := .ref 41) rfl (ab_fo q p1_o_p1_Hx_1 (by decide)) rfl ?_
  refine go_s (pc' := 5) (lv' := [(0, .ref 1), (1, .int e), (2, .int k)]) (st' := [.int e, .ref 41]) rfl rfl rfl ?_
  refine go_cc rfl rfl (ab_cal_v (As := [.int e]) (rest := []) rfl rfl rfl (ab_fo q p1_o_p1_Hx_41 (by decide)) rfl rfl rfl rfl) (lv0 := [(0, .ref 41), (1, .int e)]) rfl ?_
  refine go_s (pc' := 1) (lv' := [(0, .ref 41), (1, .int e)]) (st' := [.int e]) rfl rfl rfl ?_
  refine go_if (tgt := 16) rfl (by decide) (fun c => ?_) (fun c => ?_)
  ·
    have c1 : e.toInt < 0 := c
    refine go_iconst (v := 0) rfl (by decide) ?_
    refine go_rz rfl rfl (by decide) ?_
    show ab_go 999 ab_M_X9_time 8 [(0, .ref 1), (1, .int e), (2, .int k)] [.int 0] g _
    refine go_ift (tgt := 22) rfl (by decide) (by decide) ?_
    refine go_iconst (v := (-1)) rfl (by decide) ?_
    refine go_ri rfl rfl ?_
    exact ⟨rfl, x0⟩
  ·
    have c2 : ¬ e.toInt < 0 := c
    refine go_s (pc' := 5) (lv' := [(0, .ref 41), (1, .int e)]) (st' := [.int e]) rfl rfl rfl ?_
    refine go_s (pc' := 6) (lv' := [(0, .ref 41), (1, .int e)]) (st' := [.ref 41, .int e]) rfl rfl rfl ?_
    refine go_get (v := .int 0) rfl (ab_fo q p1_o_p1_Hx_41 (by decide)) rfl ?_
    refine go_ic (tgt := 16) rfl (by decide) (fun c => ?_) (fun c => ?_)
    ·
      have c3 : 0 ≤ e.toInt := c
      refine go_iconst (v := 0) rfl (by decide) ?_
      refine go_rz rfl rfl (by decide) ?_
      show ab_go 999 ab_M_X9_time 8 [(0, .ref 1), (1, .int e), (2, .int k)] [.int 0] g _
      refine go_ift (tgt := 22) rfl (by decide) (by decide) ?_
      refine go_iconst (v := (-1)) rfl (by decide) ?_
      refine go_ri rfl rfl ?_
      exact ⟨rfl, x0⟩
    ·
      have c4 : ¬ 0 ≤ e.toInt := c
      exfalso; omega
