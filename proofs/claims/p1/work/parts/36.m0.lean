set_option maxHeartbeats 16000000 in
set_option maxRecDepth 20000 in
theorem m_feed {g : ab_H} (q : ab_sim p1_Sm p1_Hm g) (v : Int64) : ab_go 999 ab_M_X10_feed 0 [(0, .ref 82), (1, .long v)] [] g (fun r g' => r = some (.int 8) ∧ p1_Y g g') := by
  have hz : g.1 = 120 := q.1.symm
  have x0 : p1_Y g g := ⟨q.1.symm, q.2.1.symm, rfl⟩
  refine go_s (pc' := 1) (lv' := [(0, .ref 82), (1, .long v)]) (st' := [.ref 82]) rfl rfl rfl ?_
  refine go_get (v := .int 0) rfl (ab_fo q p1_o_p1_Hm_82 (by decide)) rfl ?_
  refine go_bipush (v := 8) rfl (by decide) ?_
  refine go_b2 (v := 8) rfl rfl (fun _ => rfl) (by decide) ?_
  refine go_sipush (v := 240) rfl (by decide) ?_
  refine go_ict (tgt := 16) rfl (by decide) (by decide) ?_
  refine go_bipush (v := 56) rfl (by decide) ?_
  refine go_s (pc' := 19) (lv' := [(3, .int 56), (0, .ref 82), (1, .long v)]) (st' := []) rfl rfl rfl ?_
  refine go_s (pc' := 20) (lv' := [(3, .int 56), (0, .ref 82), (1, .long v)]) (st' := [.int 56]) rfl rfl rfl ?_
  refine go_iff rfl (by decide) ?_
  refine go_s (pc' := 24) (lv' := [(3, .int 56), (0, .ref 82), (1, .long v)]) (st' := [.ref 82]) rfl rfl rfl ?_
  refine go_get (v := .ref 91) rfl (ab_fo q p1_o_p1_Hm_82 (by decide)) rfl ?_
  refine go_s (pc' := 28) (lv' := [(3, .int 56), (0, .ref 82), (1, .long v)]) (st' := [.ref 82, .ref 91]) rfl rfl rfl ?_
  refine go_get (v := .int 0) rfl (ab_fo q p1_o_p1_Hm_82 (by decide)) rfl ?_
  refine go_s (pc' := 32) (lv' := [(3, .int 56), (0, .ref 82), (1, .long v)]) (st' := [.long v, .int 0, .ref 91]) rfl rfl rfl ?_
  refine go_s (pc' := 33) (lv' := [(3, .int 56), (0, .ref 82), (1, .long v)]) (st' := [.int 56, .long v, .int 0, .ref 91]) rfl rfl rfl ?_
  obtain ⟨w1, ew1⟩ : ∃ w : Int64, (v >>> (Int32.toInt64 56 &&& 63)) = w := ⟨_, rfl⟩
  refine go_ls (v := w1) rfl rfl (fun _ => rfl) ew1 ?_
  obtain ⟨w2, ew2⟩ : ∃ w : Int32, Int64.toInt32 w1 = w := ⟨_, rfl⟩
  refine go_l2i (v := w2) rfl ew2 ?_
  refine go_sipush (v := 255) rfl (by decide) ?_
  refine go_b2 (v := w2 &&& 255) rfl rfl (fun _ => rfl) rfl ?_
  obtain ⟨f3, h4, vh4⟩ := ab_fa q p1_a_p1_Hm_91_0
  refine go_ias rfl h4 (by decide) (by decide) ?_
  generalize upd f3 (Int32.toNatClampNeg 0) (w2 &&& 255) = f5
  show ab_go 999 ab_M_X10_feed 40 [(3, .int 56), (0, .ref 82), (1, .long v)] [] (ab_wr g 91 (.inl (0, 240, .inl f5))) _
  refine go_s (pc' := 41) (lv' := [(3, .int 56), (0, .ref 82), (1, .long v)]) (st' := [.ref 82]) rfl rfl rfl ?_
  refine go_s (pc' := 42) (lv' := [(3, .int 56), (0, .ref 82), (1, .long v)]) (st' := [.ref 82, .ref 82]) rfl rfl rfl ?_
  refine go_get (v := .int 0) rfl (by rw [ab_rd_other (by decide)]; exact ab_fo q p1_o_p1_Hm_82 (by decide)) rfl ?_
  refine go_iconst (v := 1) rfl (by decide) ?_
  refine go_b2 (v := 1) rfl rfl (fun _ => rfl) (by decide) ?_
  refine go_put (v := .int 1) rfl (by rw [ab_rd_other (by decide)]; exact ab_fo q p1_o_p1_Hm_82 (by decide)) (Nat.le_of_ble_eq_true rfl) (by decide) ?_
  show ab_go 999 ab_M_X10_feed 50 [(3, .int 56), (0, .ref 82), (1, .long v)] [] (ab_wr (ab_wr g 91 (.inl (0, 240, .inl f5))) 82 (.inr (10, [.int 0, .ref 83, .ref 84, .int 0, .ref 85, .ref 86, .ref 87, .ref 88, .ref 89, .ref 90, .int 0, .int 0, .ref 91, .int 1, .int 0, .int 0, .int 0, .int 0, .int 0, .int 0, .int 0, .int 0, .ref 92, .ref 93, .int 0, .ref 94, .ref 95, .ref 96, .ref 97, .ref 98, .int 0, .int 0, .int 0, .int 0, .ref 99, .ref 100, .ref 101, .int 0, .ref 102, .int 0, .int 0, .int 0, .int 0, .int 0, .int 0, .int 0, .int 0, .long 0, .long 0, .int 0, .ref 103, .ref 104, .ref 105, .ref 106, .ref 107, .ref 108, .ref 109, .int 0, .int 0, .ref 110, .ref 111, .ref 112, .ref 113, .ref 114, .int 0, .ref 115, .ref 116, .ref 117, .ref 118, .ref 119]))) _
  refine go_s (pc' := 53) (lv' := [(3, .int 48), (0, .ref 82), (1, .long v)]) (st' := []) rfl rfl rfl ?_
  refine go_goto (tgt := 19) rfl (by decide) ?_
  refine go_s (pc' := 20) (lv' := [(3, .int 48), (0, .ref 82), (1, .long v)]) (st' := [.int 48]) rfl rfl rfl ?_
  refine go_iff rfl (by decide) ?_
  refine go_s (pc' := 24) (lv' := [(3, .int 48), (0, .ref 82), (1, .long v)]) (st' := [.ref 82]) rfl rfl rfl ?_
  refine go_get (v := .ref 91) rfl (ab_rd_self (by show 82 < g.1; rw [hz]; decide)) rfl ?_
  refine go_s (pc' := 28) (lv' := [(3, .int 48), (0, .ref 82), (1, .long v)]) (st' := [.ref 82, .ref 91]) rfl rfl rfl ?_
  refine go_get (v := .int 1) rfl (ab_rd_self (by show 82 < g.1; rw [hz]; decide)) rfl ?_
  refine go_s (pc' := 32) (lv' := [(3, .int 48), (0, .ref 82), (1, .long v)]) (st' := [.long v, .int 1, .ref 91]) rfl rfl rfl ?_
  refine go_s (pc' := 33) (lv' := [(3, .int 48), (0, .ref 82), (1, .long v)]) (st' := [.int 48, .long v, .int 1, .ref 91]) rfl rfl rfl ?_
  obtain ⟨w6, ew6⟩ : ∃ w : Int64, (v >>> (Int32.toInt64 48 &&& 63)) = w := ⟨_, rfl⟩
  refine go_ls (v := w6) rfl rfl (fun _ => rfl) ew6 ?_
  obtain ⟨w7, ew7⟩ : ∃ w : Int32, Int64.toInt32 w6 = w := ⟨_, rfl⟩
  refine go_l2i (v := w7) rfl ew7 ?_
  refine go_sipush (v := 255) rfl (by decide) ?_
  refine go_b2 (v := w7 &&& 255) rfl rfl (fun _ => rfl) rfl ?_
  refine go_ias rfl (by rw [ab_rd_other (by decide)]; exact ab_rd_self (by show 91 < g.1; rw [hz]; decide)) (by decide) (by decide) ?_
  generalize upd f5 (Int32.toNatClampNeg 1) (w7 &&& 255) = f8
  show ab_go 999 ab_M_X10_feed 40 [(3, .int 48), (0, .ref 82), (1, .long v)] [] (ab_wr (ab_wr (ab_wr g 91 (.inl (0, 240, .inl f5))) 82 (.inr (10, [.int 0, .ref 83, .ref 84, .int 0, .ref 85, .ref 86, .ref 87, .ref 88, .ref 89, .ref 90, .int 0, .int 0, .ref 91, .int 1, .int 0, .int 0, .int 0, .int 0, .int 0, .int 0, .int 0, .int 0, .ref 92, .ref 93, .int 0, .ref 94, .ref 95, .ref 96, .ref 97, .ref 98, .int 0, .int 0, .int 0, .int 0, .ref 99, .ref 100, .ref 101, .int 0, .ref 102, .int 0, .int 0, .int 0, .int 0, .int 0, .int 0, .int 0, .int 0, .long 0, .long 0, .int 0, .ref 103, .ref 104, .ref 105, .ref 106, .ref 107, .ref 108, .ref 109, .int 0, .int 0, .ref 110, .ref 111, .ref 112, .ref 113, .ref 114, .int 0, .ref 115, .ref 116, .ref 117, .ref 118, .ref 119]))) 91 (.inl (0, 240, .inl f8))) _
  refine go_s (pc' := 41) (lv' := [(3, .int 48), (0, .ref 82), (1, .long v)]) (st' := [.ref 82]) rfl rfl rfl ?_
  refine go_s (pc' := 42) (lv' := [(3, .int 48), (0, .ref 82), (1, .long v)]) (st' := [.ref 82, .ref 82]) rfl rfl rfl ?_
  refine go_get (v := .int 1) rfl (by rw [ab_rd_other (by decide)]; exact ab_rd_self (by show 82 < g.1; rw [hz]; decide)) rfl ?_
  refine go_iconst (v := 1) rfl (by decide) ?_
  refine go_b2 (v := 2) rfl rfl (fun _ => rfl) (by decide) ?_
  refine go_put (v := .int 2) rfl (by rw [ab_rd_other (by decide)]; exact ab_rd_self (by show 82 < g.1; rw [hz]; decide)) (Nat.le_of_ble_eq_true rfl) (by decide) ?_
  show ab_go 999 ab_M_X10_feed 50 [(3, .int 48), (0, .ref 82), (1, .long v)] [] (ab_wr (ab_wr (ab_wr (ab_wr g 91 (.inl (0, 240, .inl f5))) 82 (.inr (10, [.int 0, .ref 83, .ref 84, .int 0, .ref 85, .ref 86, .ref 87, .ref 88, .ref 89, .ref 90, .int 0, .int 0, .ref 91, .int 1, .int 0, .int 0, .int 0, .int 0, .int 0, .int 0, .int 0, .int 0, .ref 92, .ref 93, .int 0, .ref 94, .ref 95, .ref 96, .ref 97, .ref 98, .int 0, .int 0, .int 0, .int 0, .ref 99, .ref 100, .ref 101, .int 0, .ref 102, .int 0, .int 0, .int 0, .int 0, .int 0, .int 0, .int 0, .int 0, .long 0, .long 0, .int 0, .ref 103, .ref 104, .ref 105, .ref 106, .ref 107, .ref 108, .ref 109, .int 0, .int 0, .ref 110, .ref 111, .ref 112, .ref 113, .ref 114, .int 0, .ref 115, .ref 116, .ref 117, .ref 118, .ref 119]))) 91 (.inl (0, 240, .inl f8))) 82 (.inr (10, [.int 0, .ref 83, .ref 84, .int 0, .ref 85, .ref 86, .ref 87, .ref 88, .ref 89, .ref 90, .int 0, .int 0, .ref 91, .int 2, .int 0, .int 0, .int 0, .int 0, .int 0, .int 0, .int 0, .int 0, .ref 92, .ref 93, .int 0, .ref 94, .ref 95, .ref 96, .ref 97, .ref 98, .int 0, .int 0, .int 0, .int 0, .ref 99, .ref 100, .ref 101, .int 0, .ref 102, .int 0, .int 0, .int 0, .int 0, .int 0, .int 0, .int 0, .int 0, .long 0, .long 0, .int 0, .ref 103, .ref 104, .ref 105, .ref 106, .ref 107, .ref 108, .ref 109, .int 0, .int 0, .ref 110, .ref 111, .ref 112, .ref 113, .ref 114, .int 0, .ref 115, .ref 116, .ref 117, .ref 118, .ref 119]))) _
  refine go_s (pc' := 53) (lv' := [(3, .int 40), (0, .ref 82), (1, .long v)]) (st' := []) rfl rfl rfl ?_
  refine go_goto (tgt := 19) rfl (by decide) ?_
  refine go_s (pc' := 20) (lv' := [(3, .int 40), (0, .ref 82), (1, .long v)]) (st' := [.int 40]) rfl rfl rfl ?_
  refine go_iff rfl (by decide) ?_
  refine go_s (pc' := 24) (lv' := [(3, .int 40), (0, .ref 82), (1, .long v)]) (st' := [.ref 82]) rfl rfl rfl ?_
  refine go_get (v := .ref 91) rfl (ab_rd_self (by show 82 < g.1; rw [hz]; decide)) rfl ?_
  refine go_s (pc' := 28) (lv' := [(3, .int 40), (0, .ref 82), (1, .long v)]) (st' := [.ref 82, .ref 91]) rfl rfl rfl ?_
  refine go_get (v := .int 2) rfl (ab_rd_self (by show 82 < g.1; rw [hz]; decide)) rfl ?_
  refine go_s (pc' := 32) (lv' := [(3, .int 40), (0, .ref 82), (1, .long v)]) (st' := [.long v, .int 2, .ref 91]) rfl rfl rfl ?_
  refine go_s (pc' := 33) (lv' := [(3, .int 40), (0, .ref 82), (1, .long v)]) (st' := [.int 40, .long v, .int 2, .ref 91]) rfl rfl rfl ?_
  obtain ⟨w9, ew9⟩ : ∃ w : Int64, (v >>> (Int32.toInt64 40 &&& 63)) = w := ⟨_, rfl⟩
  refine go_ls (v := w9) rfl rfl (fun _ => rfl) ew9 ?_
  obtain ⟨w10, ew10⟩ : ∃ w : Int32, Int64.toInt32 w9 = w := ⟨_, rfl⟩
  refine go_l2i (v := w10) rfl ew10 ?_
  refine go_sipush (v := 255) rfl (by decide) ?_
  refine go_b2 (v := w10 &&& 255) rfl rfl (fun _ => rfl) rfl ?_
  refine go_ias rfl (by rw [ab_rd_other (by decide)]; exact ab_rd_self (by show 91 < g.1; rw [hz]; decide)) (by decide) (by decide) ?_
  generalize upd f8 (Int32.toNatClampNeg 2) (w10 &&& 255) = f11
  show ab_go 999 ab_M_X10_feed 40 [(3, .int 40), (0, .ref 82), (1, .long v)] [] (ab_wr (ab_wr (ab_wr (ab_wr (ab_wr g 91 (.inl (0, 240, .inl f5))) 82 (.inr (10, [.int 0, .ref 83, .ref 84, .int 0, .ref 85, .ref 86, .ref 87, .ref 88, .ref 89, .ref 90, .int 0, .int 0, .ref 91, .int 1, .int 0, .int 0, .int 0, .int 0, .int 0, .int 0, .int 0, .int 0, .ref 92, .ref 93, .int 0, .ref 94, .ref 95, .ref 96, .ref 97, .ref 98, .int 0, .int 0, .int 0, .int 0, .ref 99, .ref 100, .ref 101, .int 0, .ref 102, .int 0, .int 0, .int 0, .int 0, .int 0, .int 0, .int 0, .int 0, .long 0, .long 0, .int 0, .ref 103, .ref 104, .ref 105, .ref 106, .ref 107, .ref 108, .ref 109, .int 0, .int 0, .ref 110, .ref 111, .ref 112, .ref 113, .ref 114, .int 0, .ref 115, .ref 116, .ref 117, .ref 118, .ref 119]))) 91 (.inl (0, 240, .inl f8))) 82 (.inr (10, [.int 0, .ref 83, .ref 84, .int 0, .ref 85, .ref 86, .ref 87, .ref 88, .ref 89, .ref 90, .int 0, .int 0, .ref 91, .int 2, .int 0, .int 0, .int 0, .int 0, .int 0, .int 0, .int 0, .int 0, .ref 92, .ref 93, .int 0, .ref 94, .ref 95, .ref 96, .ref 97, .ref 98, .int 0, .int 0, .int 0, .int 0, .ref 99, .ref 100, .ref 101, .int 0, .ref 102, .int 0, .int 0, .int 0, .int 0, .int 0, .int 0, .int 0, .int 0, .long 0, .long 0, .int 0, .ref 103, .ref 104, .ref 105, .ref 106, .ref 107, .ref 108, .ref 109, .int 0, .int 0, .ref 110, .ref 111, .ref 112, .ref 113, .ref 114, .int 0, .ref 115, .ref 116, .ref 117, .ref 118, .ref 119]))) 91 (.inl (0, 240, .inl f11))) _
  refine go_s (pc' := 41) (lv' := [(3, .int 40), (0, .ref 82), (1, .long v)]) (st' := [.ref 82]) rfl rfl rfl ?_
  refine go_s (pc' := 42) (lv' := [(3, .int 40), (0, .ref 82), (1, .long v)]) (st' := [.ref 82, .ref 82]) rfl rfl rfl ?_
  refine go_get (v := .int 2) rfl (by rw [ab_rd_other (by decide)]; exact ab_rd_self (by show 82 < g.1; rw [hz]; decide)) rfl ?_
  refine go_iconst (v := 1) rfl (by decide) ?_
  refine go_b2 (v := 3) rfl rfl (fun _ => rfl) (by decide) ?_
  refine go_put (v := .int 3) rfl (by rw [ab_rd_other (by decide)]; exact ab_rd_self (by show 82 < g.1; rw [hz]; decide)) (Nat.le_of_ble_eq_true rfl) (by decide) ?_
  show ab_go 999 ab_M_X10_feed 50 [(3, .int 40), (0, .ref 82), (1, .long v)] [] (ab_wr (ab_wr (ab_wr (ab_wr (ab_wr (ab_wr g 91 (.inl (0, 240, .inl f5))) 82 (.inr (10, [.int 0, .ref 83, .ref 84, .int 0, .ref 85, .ref 86, .ref 87, .ref 88, .ref 89, .ref 90, .int 0, .int 0, .ref 91, .int 1, .int 0, .int 0, .int 0, .int 0, .int 0, .int 0, .int 0, .int 0, .ref 92, .ref 93, .int 0, .ref 94, .ref 95, .ref 96, .ref 97, .ref 98, .int 0, .int 0, .int 0, .int 0, .ref 99, .ref 100, .ref 101, .int 0, .ref 102, .int 0, .int 0, .int 0, .int 0, .int 0, .int 0, .int 0, .int 0, .long 0, .long 0, .int 0, .ref 103, .ref 104, .ref 105, .ref 106, .ref 107, .ref 108, .ref 109, .int 0, .int 0, .ref 110, .ref 111, .ref 112, .ref 113, .ref 114, .int 0, .ref 115, .ref 116, .ref 117, .ref 118, .ref 119]))) 91 (.inl (0, 240, .inl f8))) 82 (.inr (10, [.int 0, .ref 83, .ref 84, .int 0, .ref 85, .ref 86, .ref 87, .ref 88, .ref 89, .ref 90, .int 0, .int 0, .ref 91, .int 2, .int 0, .int 0, .int 0, .int 0, .int 0, .int 0, .int 0, .int 0, .ref 92, .ref 93, .int 0, .ref 94, .ref 95, .ref 96, .ref 97, .ref 98, .int 0, .int 0, .int 0, .int 0, .ref 99, .ref 100, .ref 101, .int 0, .ref 102, .int 0, .int 0, .int 0, .int 0, .int 0, .int 0, .int 0, .int 0, .long 0, .long 0, .int 0, .ref 103, .ref 104, .ref 105, .ref 106, .ref 107, .ref 108, .ref 109, .int 0, .int 0, .ref 110, .ref 111, .ref 112, .ref 113, .ref 114, .int 0, .ref 115, .ref 116, .ref 117, .ref 118, .ref 119]))) 91 (.inl (0, 240, .inl f11))) 82 (.inr (10, [.int 0, .ref 83, .ref 84, .int 0, .ref 85, .ref 86, .ref 87, .ref 88, .ref 89, .ref 90, .int 0, .int 0, .ref 91, .int 3, .int 0, .int 0, .int 0, .int 0, .int 0, .int 0, .int 0, .int 0, .ref 92, .ref 93, .int 0, .ref 94, .ref 95, .ref 96, .ref 97, .ref 98, .int 0, .int 0, .int 0, .int 0, .ref 99, .ref 100, .ref 101, .int 0, .ref 102, .int 0, .int 0, .int 0, .int 0, .int 0, .int 0, .int 0, .int 0, .long 0, .long 0, .int 0, .ref 103, .ref 104, .ref 105, .ref 106, .ref 107, .ref 108, .ref 109, .int 0, .int 0, .ref 110, .ref 111, .ref 112, .ref 113, .ref 114, .int 0, .ref 115, .ref 116, .ref 117, .ref 118, .ref 119]))) _
  refine go_s (pc' := 53) (lv' := [(3, .int 32), (0, .ref 82), (1, .long v)]) (st' := []) rfl rfl rfl ?_
  refine go_goto (tgt := 19) rfl (by decide) ?_
  refine go_s (pc' := 20) (lv' := [(3, .int 32), (0, .ref 82), (1, .long v)]) (st' := [.int 32]) rfl rfl rfl ?_
  refine go_iff rfl (by decide) ?_
  refine go_s (pc' := 24) (lv' := [(3, .int 32), (0, .ref 82), (1, .long v)]) (st' := [.ref 82]) rfl rfl rfl ?_
  refine go_get (v := .ref 91) rfl (ab_rd_self (by show 82 < g.1; rw [hz]; decide)) rfl ?_
  refine go_s (pc' := 28) (lv' := [(3, .int 32), (0, .ref 82), (1, .long v)]) (st' := [.ref 82, .ref 91]) rfl rfl rfl ?_
  refine go_get (v := .int 3) rfl (ab_rd_self (by show 82 < g.1; rw [hz]; decide)) rfl ?_
  refine go_s (pc' := 32) (lv' := [(3, .int 32), (0, .ref 82), (1, .long v)]) (st' := [.long v, .int 3, .ref 91]) rfl rfl rfl ?_
  refine go_s (pc' := 33) (lv' := [(3, .int 32), (0, .ref 82), (1, .long v)]) (st' := [.int 32, .long v, .int 3, .ref 91]) rfl rfl rfl ?_
  obtain ⟨w12, ew12⟩ : ∃ w : Int64, (v >>> (Int32.toInt64 32 &&& 63)) = w := ⟨_, rfl⟩
  refine go_ls (v := w12) rfl rfl (fun _ => rfl) ew12 ?_
  obtain ⟨w13, ew13⟩ : ∃ w : Int32, Int64.toInt32 w12 = w := ⟨_, rfl⟩
  refine go_l2i (v := w13) rfl ew13 ?_
  refine go_sipush (v := 255) rfl (by decide) ?_
  refine go_b2 (v := w13 &&& 255) rfl rfl (fun _ => rfl) rfl ?_
  refine go_ias rfl (by rw [ab_rd_other (by decide)]; exact ab_rd_self (by show 91 < g.1; rw [hz]; decide)) (by decide) (by decide) ?_
  generalize upd f11 (Int32.toNatClampNeg 3) (w13 &&& 255) = f14
  show ab_go 999 ab_M_X10_feed 40 [(3, .int 32), (0, .ref 82), (1, .long v)] [] (ab_wr (ab_wr (ab_wr (ab_wr (ab_wr (ab_wr (ab_wr g 91 (.inl (0, 240, .inl f5))) 82 (.inr (10, [.int 0, .ref 83, .ref 84, .int 0, .ref 85, .ref 86, .ref 87, .ref 88, .ref 89, .ref 90, .int 0, .int 0, .ref 91, .int 1, .int 0, .int 0, .int 0, .int 0, .int 0, .int 0, .int 0, .int 0, .ref 92, .ref 93, .int 0, .ref 94, .ref 95, .ref 96, .ref 97, .ref 98, .int 0, .int 0, .int 0, .int 0, .ref 99, .ref 100, .ref 101, .int 0, .ref 102, .int 0, .int 0, .int 0, .int 0, .int 0, .int 0, .int 0, .int 0, .long 0, .long 0, .int 0, .ref 103, .ref 104, .ref 105, .ref 106, .ref 107, .ref 108, .ref 109, .int 0, .int 0, .ref 110, .ref 111, .ref 112, .ref 113, .ref 114, .int 0, .ref 115, .ref 116, .ref 117, .ref 118, .ref 119]))) 91 (.inl (0, 240, .inl f8))) 82 (.inr (10, [.int 0, .ref 83, .ref 84, .int 0, .ref 85, .ref 86, .ref 87, .ref 88, .ref 89, .ref 90, .int 0, .int 0, .ref 91, .int 2, .int 0, .int 0, .int 0, .int 0, .int 0, .int 0, .int 0, .int 0, .ref 92, .ref 93, .int 0, .ref 94, .ref 95, .ref 96, .ref 97, .ref 98, .int 0, .int 0, .int 0, .int 0, .ref 99, .ref 100, .ref 101, .int 0, .ref 102, .int 0, .int 0, .int 0, .int 0, .int 0, .int 0, .int 0, .int 0, .long 0, .long 0, .int 0, .ref 103, .ref 104, .ref 105, .ref 106, .ref 107, .ref 108, .ref 109, .int 0, .int 0, .ref 110, .ref 111, .ref 112, .ref 113, .ref 114, .int 0, .ref 115, .ref 116, .ref 117, .ref 118, .ref 119]))) 91 (.inl (0, 240, .inl f11))) 82 (.inr (10, [.int 0, .ref 83, .ref 84, .int 0, .ref 85, .ref 86, .ref 87, .ref 88, .ref 89, .ref 90, .int 0, .int 0, .ref 91, .int 3, .int 0, .int 0, .int 0, .int 0, .int 0, .int 0, .int 0, .int 0, .ref 92, .ref 93, .int 0, .ref 94, .ref 95, .ref 96, .ref 97, .ref 98, .int 0, .int 0, .int 0, .int 0, .ref 99, .ref 100, .ref 101, .int 0, .ref 102, .int 0, .int 0, .int 0, .int 0, .int 0, .int 0, .int 0, .int 0, .long 0, .long 0, .int 0, .ref 103, .ref 104, .ref 105, .ref 106, .ref 107, .ref 108, .ref 109, .int 0, .int 0, .ref 110, .ref 111, .ref 112, .ref 113, .ref 114, .int 0, .ref 115, .ref 116, .ref 117, .ref 118, .ref 119]))) 91 (.inl (0, 240, .inl f14))) _
  refine go_s (pc' := 41) (lv' := [(3, .int 32), (0, .ref 82), (1, .long v)]) (st' := [.ref 82]) rfl rfl rfl ?_
  refine go_s (pc' := 42) (lv' := [(3, .int 32), (0, .ref 82), (1, .long v)]) (st' := [.ref 82, .ref 82]) rfl rfl rfl ?_
  refine go_get (v := .int 3) rfl (by rw [ab_rd_other (by decide)]; exact ab_rd_self (by show 82 < g.1; rw [hz]; decide)) rfl ?_
  refine go_iconst (v := 1) rfl (by decide) ?_
  refine go_b2 (v := 4) rfl rfl (fun _ => rfl) (by decide) ?_
  refine go_put (v := .int 4) rfl (by rw [ab_rd_other (by decide)]; exact ab_rd_self (by show 82 < g.1; rw [hz]; decide)) (Nat.le_of_ble_eq_true rfl) (by decide) ?_
  show ab_go 999 ab_M_X10_feed 50 [(3, .int 32), (0, .ref 82), (1, .long v)] [] (ab_wr (ab_wr (ab_wr (ab_wr (ab_wr (ab_wr (ab_wr (ab_wr g 91 (.inl (0, 240, .inl f5))) 82 (.inr (10, [.int 0, .ref 83, .ref 84, .int 0, .ref 85, .ref 86, .ref 87, .ref 88, .ref 89, .ref 90, .int 0, .int 0, .ref 91, .int 1, .int 0, .int 0, .int 0, .int 0, .int 0, .int 0, .int 0, .int 0, .ref 92, .ref 93, .int 0, .ref 94, .ref 95, .ref 96, .ref 97, .ref 98, .int 0, .int 0, .int 0, .int 0, .ref 99, .ref 100, .ref 101, .int 0, .ref 102, .int 0, .int 0, .int 0, .int 0, .int 0, .int 0, .int 0, .int 0, .long 0, .long 0, .int 0, .ref 103, .ref 104, .ref 105, .ref 106, .ref 107, .ref 108, .ref 109, .int 0, .int 0, .ref 110, .ref 111, .ref 112, .ref 113, .ref 114, .int 0, .ref 115, .ref 116, .ref 117, .ref 118, .ref 119]))) 91 (.inl (0, 240, .inl f8))) 82 (.inr (10, [.int 0, .ref 83, .ref 84, .int 0, .ref 85, .ref 86, .ref 87, .ref 88, .ref 89, .ref 90, .int 0, .int 0, .ref 91, .int 2, .int 0, .int 0, .int 0, .int 0, .int 0, .int 0, .int 0, .int 0, .ref 92, .ref 93, .int 0, .ref 94, .ref 95, .ref 96, .ref 97, .ref 98, .int 0, .int 0, .int 0, .int 0, .ref 99, .ref 100, .ref 101, .int 0, .ref 102, .int 0, .int 0, .int 0, .int 0, .int 0, .int 0, .int 0, .int 0, .long 0, .long 0, .int 0, .ref 103, .ref 104, .ref 105, .ref 106, .ref 107, .ref 108, .ref 109, .int 0, .int 0, .ref 110, .ref 111, .ref 112, .ref 113, .ref 114, .int 0, .ref 115, .ref 116, .ref 117, .ref 118, .ref 119]))) 91 (.inl (0, 240, .inl f11))) 82 (.inr (10, [.int 0, .ref 83, .ref 84, .int 0, .ref 85, .ref 86, .ref 87, .ref 88, .ref 89, .ref 90, .int 0, .int 0, .ref 91, .int 3, .int 0, .int 0, .int 0, .int 0, .int 0, .int 0, .int 0, .int 0, .ref 92, .ref 93, .int 0, .ref 94, .ref 95, .ref 96, .ref 97, .ref 98, .int 0, .int 0, .int 0, .int 0, .ref 99, .ref 100, .ref 101, .int 0, .ref 102, .int 0, .int 0, .int 0, .int 0, .int 0, .int 0, .int 0, .int 0, .long 0, .long 0, .int 0, .ref 103, .ref 104, .ref 105, .ref 106, .ref 107, .ref 108, .ref 109, .int 0, .int 0, .ref 110, .ref 111, .ref 112, .ref 113, .ref 114, .int 0, .ref 115, .ref 116, .ref 117, .ref 118, .ref 119]))) 91 (.inl (0, 240, .inl f14))) 82 (.inr (10, [.int 0, .ref 83, .ref 84, .int 0, .ref 85, .ref 86, .ref 87, .ref 88, .ref 89, .ref 90, .int 0, .int 0, .ref 91, .int 4, .int 0, .int 0, .int 0, .int 0, .int 0, .int 0, .int 0, .int 0, .ref 92, .ref 93, .int 0, .ref 94, .ref 95, .ref 96, .ref 97, .ref 98, .int 0, .int 0, .int 0, .int 0, .ref 99, .ref 100, .ref 101, .int 0, .ref 102, .int 0, .int 0, .int 0, .int 0, .int 0, .int 0, .int 0, .int 0, .long 0, .long 0, .int 0, .ref 103, .ref 104, .ref 105, .ref 106, .ref 107, .ref 108, .ref 109, .int 0, .int 0, .ref 110, .ref 111, .ref 112, .ref 113, .ref 114, .int 0, .ref 115, .ref 116, .ref 117, .ref 118, .ref 119]))) _
  refine go_s (pc' := 53) (lv' := [(3, .int 24), (0, .ref 82), (1, .long v)]) (st' := []) rfl rfl rfl ?_
  refine go_goto (tgt := 19) rfl (by decide) ?_
  refine go_s (pc' := 20) (lv' := [(3, .int 24), (0, .ref 82), (1, .long v)]) (st' := [.int 24]) rfl rfl rfl ?_
  refine go_iff rfl (by decide) ?_
  refine go_s (pc' := 24) (lv' := [(3, .int 24), (0, .ref 82), (1, .long v)]) (st' := [.ref 82]) rfl rfl rfl ?_
  refine go_get (v := .ref 91) rfl (ab_rd_self (by show 82 < g.1; rw [hz]; decide)) rfl ?_
  refine go_s (pc' := 28) (lv' := [(3, .int 24), (0, .ref 82), (1, .long v)]) (st' := [.ref 82, .ref 91]) rfl rfl rfl ?_
  refine go_get (v := .int 4) rfl (ab_rd_self (by show 82 < g.1; rw [hz]; decide)) rfl ?_
  refine go_s (pc' := 32) (lv' := [(3, .int 24), (0, .ref 82), (1, .long v)]) (st' := [.long v, .int 4, .ref 91]) rfl rfl rfl ?_
  refine go_s (pc' := 33) (lv' := [(3, .int 24), (0, .ref 82), (1, .long v)]) (st' := [.int 24, .long v, .int 4, .ref 91]) rfl rfl rfl ?_
  obtain ⟨w15, ew15⟩ : ∃ w : Int64, (v >>> (Int32.toInt64 24 &&& 63)) = w := ⟨_, rfl⟩
  refine go_ls (v := w15) rfl rfl (fun _ => rfl) ew15 ?_
  obtain ⟨w16, ew16⟩ : ∃ w : Int32, Int64.toInt32 w15 = w := ⟨_, rfl⟩
  refine go_l2i (v := w16) rfl ew16 ?_
  refine go_sipush (v := 255) rfl (by decide) ?_
  refine go_b2 (v := w16 &&& 255) rfl rfl (fun _ => rfl) rfl ?_
  refine go_ias rfl (by rw [ab_rd_other (by decide)]; exact ab_rd_self (by show 91 < g.1; rw [hz]; decide)) (by decide) (by decide) ?_
  generalize upd f14 (Int32.toNatClampNeg 4) (w16 &&& 255) = f17
  show ab_go 999 ab_M_X10_feed 40 [(3, .int 24), (0, .ref 82), (1, .long v)] [] (ab_wr (ab_wr (ab_wr (ab_wr (ab_wr (ab_wr (ab_wr (ab_wr (ab_wr g 91 (.inl (0, 240, .inl f5))) 82 (.inr (10, [.int 0, .ref 83, .ref 84, .int 0, .ref 85, .ref 86, .ref 87, .ref 88, .ref 89, .ref 90, .int 0, .int 0, .ref 91, .int 1, .int 0, .int 0, .int 0, .int 0, .int 0, .int 0, .int 0, .int 0, .ref 92, .ref 93, .int 0, .ref 94, .ref 95, .ref 96, .ref 97, .ref 98, .int 0, .int 0, .int 0, .int 0, .ref 99, .ref 100, .ref 101, .int 0, .ref 102, .int 0, .int 0, .int 0, .int 0, .int 0, .int 0, .int 0, .int 0, .long 0, .long 0, .int 0, .ref 103, .ref 104, .ref 105, .ref 106, .ref 107, .ref 108, .ref 109, .int 0, .int 0, .ref 110, .ref 111, .ref 112, .ref 113, .ref 114, .int 0, .ref 115, .ref 116, .ref 117, .ref 118, .ref 119]))) 91 (.inl (0, 240, .inl f8))) 82 (.inr (10, [.int 0, .ref 83, .ref 84, .int 0, .ref 85, .ref 86, .ref 87, .ref 88, .ref 89, .ref 90, .int 0, .int 0, .ref 91, .int 2, .int 0, .int 0, .int 0, .int 0, .int 0, .int 0, .int 0, .int 0, .ref 92, .ref 93, .int 0, .ref 94, .ref 95, .ref 96, .ref 97, .ref 98, .int 0, .int 0, .int 0, .int 0, .ref 99, .ref 100, .ref 101, .int 0, .ref 102, .int 0, .int 0, .int 0, .int 0, .int 0, .int 0, .int 0, .int 0, .long 0, .long 0, .int 0, .ref 103, .ref 104, .ref 105, .ref 106, .ref 107, .ref 108, .ref 109, .int 0, .int 0, .ref 110, .ref 111, .ref 112, .ref 113, .ref 114, .int 0, .ref 115, .ref 116, .ref 117, .ref 118, .ref 119]))) 91 (.inl (0, 240, .inl f11))) 82 (.inr (10, [.int 0, .ref 83, .ref 84, .int 0, .ref 85, .ref 86, .ref 87, .ref 88, .ref 89, .ref 90, .int 0, .int 0, .ref 91, .int 3, .int 0, .int 0, .int 0, .int 0, .int 0, .int 0, .int 0, .int 0, .ref 92, .ref 93, .int 0, .ref 94, .ref 95, .ref 96, .ref 97, .ref 98, .int 0, .int 0, .int 0, .int 0, .ref 99, .ref 100, .ref 101, .int 0, .ref 102, .int 0, .int 0, .int 0, .int 0, .int 0, .int 0, .int 0, .int 0, .long 0, .long 0, .int 0, .ref 103, .ref 104, .ref 105, .ref 106, .ref 107, .ref 108, .ref 109, .int 0, .int 0, .ref 110, .ref 111, .ref 112, .ref 113, .ref 114, .int 0, .ref 115, .ref 116, .ref 117, .ref 118, .ref 119]))) 91 (.inl (0, 240, .inl f14))) 82 (.inr (10, [.int 0, .ref 83, .ref 84, .int 0, .ref 85, .ref 86, .ref 87, .ref 88, .ref 89, .ref 90, .int 0, .int 0, .ref 91, .int 4, .int 0, .int 0, .int 0, .int 0, .int 0, .int 0, .int 0, .int 0, .ref 92, .ref 93, .int 0, .ref 94, .ref 95, .ref 96, .ref 97, .ref 98, .int 0, .int 0, .int 0, .int 0, .ref 99, .ref 100, .ref 101, .int 0, .ref 102, .int 0, .int 0, .int 0, .int 0, .int 0, .int 0, .int 0, .int 0, .long 0, .long 0, .int 0, .ref 103, .ref 104, .ref 105, .ref 106, .ref 107, .ref 108, .ref 109, .int 0, .int 0, .ref 110, .ref 111, .ref 112, .ref 113, .ref 114, .int 0, .ref 115, .ref 116, .ref 117, .ref 118, .ref 119]))) 91 (.inl (0, 240, .inl f17))) _
  refine go_s (pc' := 41) (lv' := [(3, .int 24), (0, .ref 82), (1, .long v)]) (st' := [.ref 82]) rfl rfl rfl ?_
  refine go_s (pc' := 42) (lv' := [(3, .int 24), (0, .ref 82), (1, .long v)]) (st' := [.ref 82, .ref 82]) rfl rfl rfl ?_
  refine go_get (v := .int 4) rfl (by rw [ab_rd_other (by decide)]; exact ab_rd_self (by show 82 < g.1; rw [hz]; decide)) rfl ?_
  refine go_iconst (v := 1) rfl (by decide) ?_
  refine go_b2 (v := 5) rfl rfl (fun _ => rfl) (by decide) ?_
  refine go_put (v := .int 5) rfl (by rw [ab_rd_other (by decide)]; exact ab_rd_self (by show 82 < g.1; rw [hz]; decide)) (Nat.le_of_ble_eq_true rfl) (by decide) ?_
  show ab_go 999 ab_M_X10_feed 50 [(3, .int 24), (0, .ref 82), (1, .long v)] [] (ab_wr (ab_wr (ab_wr (ab_wr (ab_wr (ab_wr (ab_wr (ab_wr (ab_wr (ab_wr g 91 (.inl (0, 240, .inl f5))) 82 (.inr (10, [.int 0, .ref 83, .ref 84, .int 0, .ref 85, .ref 86, .ref 87, .ref 88, .ref 89, .ref 90, .int 0, .int 0, .ref 91, .int 1, .int 0, .int 0, .int 0, .int 0, .int 0, .int 0, .int 0, .int 0, .ref 92, .ref 93, .int 0, .ref 94, .ref 95, .ref 96, .ref 97, .ref 98, .int 0, .int 0, .int 0, .int 0, .ref 99, .ref 100, .ref 101, .int 0, .ref 102, .int 0, .int 0, .int 0, .int 0, .int 0, .int 0, .int 0, .int 0, .long 0, .long 0, .int 0, .ref 103, .ref 104, .ref 105, .ref 106, .ref 107, .ref 108, .ref 109, .int 0, .int 0, .ref 110, .ref 111, .ref 112, .ref 113, .ref 114, .int 0, .ref 115, .ref 116, .ref 117, .ref 118, .ref 119]))) 91 (.inl (0, 240, .inl f8))) 82 (.inr (10, [.int 0, .ref 83, .ref 84, .int 0, .ref 85, .ref 86, .ref 87, .ref 88, .ref 89, .ref 90, .int 0, .int 0, .ref 91, .int 2, .int 0, .int 0, .int 0, .int 0, .int 0, .int 0, .int 0, .int 0, .ref 92, .ref 93, .int 0, .ref 94, .ref 95, .ref 96, .ref 97, .ref 98, .int 0, .int 0, .int 0, .int 0, .ref 99, .ref 100, .ref 101, .int 0, .ref 102, .int 0, .int 0, .int 0, .int 0, .int 0, .int 0, .int 0, .int 0, .long 0, .long 0, .int 0, .ref 103, .ref 104, .ref 105, .ref 106, .ref 107, .ref 108, .ref 109, .int 0, .int 0, .ref 110, .ref 111, .ref 112, .ref 113, .ref 114, .int 0, .ref 115, .ref 116, .ref 117, .ref 118, .ref 119]))) 91 (.inl (0, 240, .inl f11))) 82 (.inr (10, [.int 0, .ref 83, .ref 84, .int 0, .ref 85, .ref 86, .ref 87, .ref 88, .ref 89, .ref 90, .int 0, .int 0, .ref 91, .int 3, .int 0, .int 0, .int 0, .int 0, .int 0, .int 0, .int 0, .int 0, .ref 92, .ref 93, .int 0, .ref 94, .ref 95, .ref 96, .ref 97, .ref 98, .int 0, .int 0, .int 0, .int 0, .ref 99, .ref 100, .ref 101, .int 0, .ref 102, .int 0, .int 0, .int 0, .int 0, .int 0, .int 0, .int 0, .int 0, .long 0, .long 0, .int 0, .ref 103, .ref 104, .ref 105, .ref 106, .ref 107, .ref 108, .ref 109, .int 0, .int 0, .ref 110, .ref 111, .ref 112, .ref 113, .ref 114, .int 0, .ref 115, .ref 116, .ref 117, .ref 118, .ref 119]))) 91 (.inl (0, 240, .inl f14))) 82 (.inr (10, [.int 0, .ref 83, .ref 84, .int 0, .ref 85, .ref 86, .ref 87, .ref 88, .ref 89, .ref 90, .int 0, .int 0, .ref 91, .int 4, .int 0, .int 0, .int 0, .int 0, .int 0, .int 0, .int 0, .int 0, .ref 92, .ref 93, .int 0, .ref 94, .ref 95, .ref 96, .ref 97, .ref 98, .int 0, .int 0, .int 0, .int 0, .ref 99, .ref 100, .ref 101, .int 0, .ref 102, .int 0, .int 0, .int 0, .int 0, .int 0, .int 0, .int 0, .int 0, .long 0, .long 0, .int 0, .ref 103, .ref 104, .ref 105, .ref 106, .ref 107, .ref 108, .ref 109, .int 0, .int 0, .ref 110, .ref 111, .ref 112, .ref 113, .ref 114, .int 0, .ref 115, .ref 116, .ref 117, .ref 118, .ref 119]))) 91 (.inl (0, 240, .inl f17))) 82 (.inr (10, [.int 0, .ref 83, .ref 84, .int 0, .ref 85, .ref 86, .ref 87, .ref 88, .ref 89, .ref 90, .int 0, .int 0, .ref 91, .int 5, .int 0, .int 0, .int 0, .int 0, .int 0, .int 0, .int 0, .int 0, .ref 92, .ref 93, .int 0, .ref 94, .ref 95, .ref 96, .ref 97, .ref 98, .int 0, .int 0, .int 0, .int 0, .ref 99, .ref 100, .ref 101, .int 0, .ref 102, .int 0, .int 0, .int 0, .int 0, .int 0, .int 0, .int 0, .int 0, .long 0, .long 0, .int 0, .ref 103, .ref 104, .ref 105, .ref 106, .ref 107, .ref 108, .ref 109, .int 0, .int 0, .ref 110, .ref 111, .ref 112, .ref 113, .ref 114, .int 0, .ref 115, .ref 116, .ref 117, .ref 118, .ref 119]))) _
  refine go_s (pc' := 53) (lv' := [(3, .int 16), (0, .ref 82), (1, .long v)]) (st' := []) rfl rfl rfl ?_
  refine go_goto (tgt := 19) rfl (by decide) ?_
  refine go_s (pc' := 20) (lv' := [(3, .int 16), (0, .ref 82), (1, .long v)]) (st' := [.int 16]) rfl rfl rfl ?_
  refine go_iff rfl (by decide) ?_
  refine go_s (pc' := 24) (lv' := [(3, .int 16), (0, .ref 82), (1, .long v)]) (st' := [.ref 82]) rfl rfl rfl ?_
  refine go_get (v := .ref 91) rfl (ab_rd_self (by show 82 < g.1; rw [hz]; decide)) rfl ?_
  refine go_s (pc' := 28) (lv' := [(3, .int 16), (0, .ref 82), (1, .long v)]) (st' := [.ref 82, .ref 91]) rfl rfl rfl ?_
  refine go_get (v := .int 5) rfl (ab_rd_self (by show 82 < g.1; rw [hz]; decide)) rfl ?_
  refine go_s (pc' := 32) (lv' := [(3, .int 16), (0, .ref 82), (1, .long v)]) (st' := [.long v, .int 5, .ref 91]) rfl rfl rfl ?_
  refine go_s (pc' := 33) (lv' := [(3, .int 16), (0, .ref 82), (1, .long v)]) (st' := [.int 16, .long v, .int 5, .ref 91]) rfl rfl rfl ?_
  obtain ⟨w18, ew18⟩ : ∃ w : Int64, (v >>> (Int32.toInt64 16 &&& 63)) = w := ⟨_, rfl⟩
  refine go_ls (v := w18) rfl rfl (fun _ => rfl) ew18 ?_
  obtain ⟨w19, ew19⟩ : ∃ w : Int32, Int64.toInt32 w18 = w := ⟨_, rfl⟩
  refine go_l2i (v := w19) rfl ew19 ?_
  refine go_sipush (v := 255) rfl (by decide) ?_
  refine go_b2 (v := w19 &&& 255) rfl rfl (fun _ => rfl) rfl ?_
  refine go_ias rfl (by rw [ab_rd_other (by decide)]; exact ab_rd_self (by show 91 < g.1; rw [hz]; decide)) (by decide) (by decide) ?_
  generalize upd f17 (Int32.toNatClampNeg 5) (w19 &&& 255) = f20
  show ab_go 999 ab_M_X10_feed 40 [(3, .int 16), (0, .ref 82), (1, .long v)] [] (ab_wr (ab_wr (ab_wr (ab_wr (ab_wr (ab_wr (ab_wr (ab_wr (ab_wr (ab_wr (ab_wr g 91 (.inl (0, 240, .inl f5))) 82 (.inr (10, [.int 0, .ref 83, .ref 84, .int 0, .ref 85, .ref 86, .ref 87, .ref 88, .ref 89, .ref 90, .int 0, .int 0, .ref 91, .int 1, .int 0, .int 0, .int 0, .int 0, .int 0, .int 0, .int 0, .int 0, .ref 92, .ref 93, .int 0, .ref 94, .ref 95, .ref 96, .ref 97, .ref 98, .int 0, .int 0, .int 0, .int 0, .ref 99, .ref 100, .ref 101, .int 0, .ref 102, .int 0, .int 0, .int 0, .int 0, .int 0, .int 0, .int 0, .int 0, .long 0, .long 0, .int 0, .ref 103, .ref 104, .ref 105, .ref 106, .ref 107, .ref 108, .ref 109, .int 0, .int 0, .ref 110, .ref 111, .ref 112, .ref 113, .ref 114, .int 0, .ref 115, .ref 116, .ref 117, .ref 118, .ref 119]))) 91 (.inl (0, 240, .inl f8))) 82 (.inr (10, [.int 0, .ref 83, .ref 84, .int 0, .ref 85, .ref 86, .ref 87, .ref 88, .ref 89, .ref 90, .int 0, .int 0, .ref 91, .int 2, .int 0, .int 0, .int 0, .int 0, .int 0, .int 0, .int 0, .int 0, .ref 92, .ref 93, .int 0, .ref 94, .ref 95, .ref 96, .ref 97, .ref 98, .int 0, .int 0, .int 0, .int 0, .ref 99, .ref 100, .ref 101, .int 0, .ref 102, .int 0, .int 0, .int 0, .int 0, .int 0, .int 0, .int 0, .int 0, .long 0, .long 0, .int 0, .ref 103, .ref 104, .ref 105, .ref 106, .ref 107, .ref 108, .ref 109, .int 0, .int 0, .ref 110, .ref 111, .ref 112, .ref 113, .ref 114, .int 0, .ref 115, .ref 116, .ref 117, .ref 118, .ref 119]))) 91 (.inl (0, 240, .inl f11))) 82 (.inr (10, [.int 0, .ref 83, .ref 84, .int 0, .ref 85, .ref 86, .ref 87, .ref 88, .ref 89, .ref 90, .int 0, .int 0, .ref 91, .int 3, .int 0, .int 0, .int 0, .int 0, .int 0, .int 0, .int 0, .int 0, .ref 92, .ref 93, .int 0, .ref 94, .ref 95, .ref 96, .ref 97, .ref 98, .int 0, .int 0, .int 0, .int 0, .ref 99, .ref 100, .ref 101, .int 0, .ref 102, .int 0, .int 0, .int 0, .int 0, .int 0, .int 0, .int 0, .int 0, .long 0, .long 0, .int 0, .ref 103, .ref 104, .ref 105, .ref 106, .ref 107, .ref 108, .ref 109, .int 0, .int 0, .ref 110, .ref 111, .ref 112, .ref 113, .ref 114, .int 0, .ref 115, .ref 116, .ref 117, .ref 118, .ref 119]))) 91 (.inl (0, 240, .inl f14))) 82 (.inr (10, [.int 0, .ref 83, .ref 84, .int 0, .ref 85, .ref 86, .ref 87, .ref 88, .ref 89, .ref 90, .int 0, .int 0, .ref 91, .int 4, .int 0, .int 0, .int 0, .int 0, .int 0, .int 0, .int 0, .int 0, .ref 92, .ref 93, .int 0, .ref 94, .ref 95, .ref 96, .ref 97, .ref 98, .int 0, .int 0, .int 0, .int 0, .ref 99, .ref 100, .ref 101, .int 0, .ref 102, .int 0, .int 0, .int 0, .int 0, .int 0, .int 0, .int 0, .int 0, .long 0, .long 0, .int 0, .ref 103, .ref 104, .ref 105, .ref 106, .ref 107, .ref 108, .ref 109, .int 0, .int 0, .ref 110, .ref 111, .ref 112, .ref 113, .ref 114, .int 0, .ref 115, .ref 116, .ref 117, .ref 118, .ref 119]))) 91 (.inl (0, 240, .inl f17))) 82 (.inr (10, [.int 0, .ref 83, .ref 84, .int 0, .ref 85, .ref 86, .ref 87, .ref 88, .ref 89, .ref 90, .int 0, .int 0, .ref 91, .int 5, .int 0, .int 0, .int 0, .int 0, .int 0, .int 0, .int 0, .int 0, .ref 92, .ref 93, .int 0, .ref 94, .ref 95, .ref 96, .ref 97, .ref 98, .int 0, .int 0, .int 0, .int 0, .ref 99, .ref 100, .ref 101, .int 0, .ref 102, .int 0, .int 0, .int 0, .int 0, .int 0, .int 0, .int 0, .int 0, .long 0, .long 0, .int 0, .ref 103, .ref 104, .ref 105, .ref 106, .ref 107, .ref 108, .ref 109, .int 0, .int 0, .ref 110, .ref 111, .ref 112, .ref 113, .ref 114, .int 0, .ref 115, .ref 116, .ref 117, .ref 118, .ref 119]))) 91 (.inl (0, 240, .inl f20))) _
  refine go_s (pc' := 41) (lv' := [(3, .int 16), (0, .ref 82), (1, .long v)]) (st' := [.ref 82]) rfl rfl rfl ?_
  refine go_s (pc' := 42) (lv' := [(3, .int 16), (0, .ref 82), (1, .long v)]) (st' := [.ref 82, .ref 82]) rfl rfl rfl ?_
  refine go_get (v := .int 5) rfl (by rw [ab_rd_other (by decide)]; exact ab_rd_self (by show 82 < g.1; rw [hz]; decide)) rfl ?_
  refine go_iconst (v := 1) rfl (by decide) ?_
  refine go_b2 (v := 6) rfl rfl (fun _ => rfl) (by decide) ?_
  refine go_put (v := .int 6) rfl (by rw [ab_rd_other (by decide)]; exact ab_rd_self (by show 82 < g.1; rw [hz]; decide)) (Nat.le_of_ble_eq_true rfl) (by decide) ?_
  show ab_go 999 ab_M_X10_feed 50 [(3, .int 16), (0, .ref 82), (1, .long v)] [] (ab_wr (ab_wr (ab_wr (ab_wr (ab_wr (ab_wr (ab_wr (ab_wr (ab_wr (ab_wr (ab_wr (ab_wr g 91 (.inl (0, 240, .inl f5))) 82 (.inr (10, [.int 0, .ref 83, .ref 84, .int 0, .ref 85, .ref 86, .ref 87, .ref 88, .ref 89, .ref 90, .int 0, .int 0, .ref 91, .int 1, .int 0, .int 0, .int 0, .int 0, .int 0, .int 0, .int 0, .int 0, .ref 92, .ref 93, .int 0, .ref 94, .ref 95, .ref 96, .ref 97, .ref 98, .int 0, .int 0, .int 0, .int 0, .ref 99, .ref 100, .ref 101, .int 0, .ref 102, .int 0, .int 0, .int 0, .int 0, .int 0, .int 0, .int 0, .int 0, .long 0, .long 0, .int 0, .ref 103, .ref 104, .ref 105, .ref 106, .ref 107, .ref 108, .ref 109, .int 0, .int 0, .ref 110, .ref 111, .ref 112, .ref 113, .ref 114, .int 0, .ref 115, .ref 116, .ref 117, .ref 118, .ref 119]))) 91 (.inl (0, 240, .inl f8))) 82 (.inr (10, [.int 0, .ref 83, .ref 84, .int 0, .ref 85, .ref 86, .ref 87, .ref 88, .ref 89, .ref 90, .int 0, .int 0, .ref 91, .int 2, .int 0, .int 0, .int 0, .int 0, .int 0, .int 0, .int 0, .int 0, .ref 92, .ref 93, .int 0, .ref 94, .ref 95, .ref 96, .ref 97, .ref 98, .int 0, .int 0, .int 0, .int 0, .ref 99, .ref 100, .ref 101, .int 0, .ref 102, .int 0, .int 0, .int 0, .int 0, .int 0, .int 0, .int 0, .int 0, .long 0, .long 0, .int 0, .ref 103, .ref 104, .ref 105, .ref 106, .ref 107, .ref 108, .ref 109, .int 0, .int 0, .ref 110, .ref 111, .ref 112, .ref 113, .ref 114, .int 0, .ref 115, .ref 116, .ref 117, .ref 118, .ref 119]))) 91 (.inl (0, 240, .inl f11))) 82 (.inr (10, [.int 0, .ref 83, .ref 84, .int 0, .ref 85, .ref 86, .ref 87, .ref 88, .ref 89, .ref 90, .int 0, .int 0, .ref 91, .int 3, .int 0, .int 0, .int 0, .int 0, .int 0, .int 0, .int 0, .int 0, .ref 92, .ref 93, .int 0, .ref 94, .ref 95, .ref 96, .ref 97, .ref 98, .int 0, .int 0, .int 0, .int 0, .ref 99, .ref 100, .ref 101, .int 0, .ref 102, .int 0, .int 0, .int 0, .int 0, .int 0, .int 0, .int 0, .int 0, .long 0, .long 0, .int 0, .ref 103, .ref 104, .ref 105, .ref 106, .ref 107, .ref 108, .ref 109, .int 0, .int 0, .ref 110, .ref 111, .ref 112, .ref 113, .ref 114, .int 0, .ref 115, .ref 116, .ref 117, .ref 118, .ref 119]))) 91 (.inl (0, 240, .inl f14))) 82 (.inr (10, [.int 0, .ref 83, .ref 84, .int 0, .ref 85, .ref 86, .ref 87, .ref 88, .ref 89, .ref 90, .int 0, .int 0, .ref 91, .int 4, .int 0, .int 0, .int 0, .int 0, .int 0, .int 0, .int 0, .int 0, .ref 92, .ref 93, .int 0, .ref 94, .ref 95, .ref 96, .ref 97, .ref 98, .int 0, .int 0, .int 0, .int 0, .ref 99, .ref 100, .ref 101, .int 0, .ref 102, .int 0, .int 0, .int 0, .int 0, .int 0, .int 0, .int 0, .int 0, .long 0, .long 0, .int 0, .ref 103, .ref 104, .ref 105, .ref 106, .ref 107, .ref 108, .ref 109, .int 0, .int 0, .ref 110, .ref 111, .ref 112, .ref 113, .ref 114, .int 0, .ref 115, .ref 116, .ref 117, .ref 118, .ref 119]))) 91 (.inl (0, 240, .inl f17))) 82 (.inr (10, [.int 0, .ref 83, .ref 84, .int 0, .ref 85, .ref 86, .ref 87, .ref 88, .ref 89, .ref 90, .int 0, .int 0, .ref 91, .int 5, .int 0, .int 0, .int 0, .int 0, .int 0, .int 0, .int 0, .int 0, .ref 92, .ref 93, .int 0, .ref 94, .ref 95, .ref 96, .ref 97, .ref 98, .int 0, .int 0, .int 0, .int 0, .ref 99, .ref 100, .ref 101, .int 0, .ref 102, .int 0, .int 0, .int 0, .int 0, .int 0, .int 0, .int 0, .int 0, .long 0, .long 0, .int 0, .ref 103, .ref 104, .ref 105, .ref 106, .ref 107, .ref 108, .ref 109, .int 0, .int 0, .ref 110, .ref 111, .ref 112, .ref 113, .ref 114, .int 0, .ref 115, .ref 116, .ref 117, .ref 118, .ref 119]))) 91 (.inl (0, 240, .inl f20))) 82 (.inr (10, [.int 0, .ref 83, .ref 84, .int 0, .ref 85, .ref 86, .ref 87, .ref 88, .ref 89, .ref 90, .int 0, .int 0, .ref 91, .int 6, .int 0, .int 0, .int 0, .int 0, .int 0, .int 0, .int 0, .int 0, .ref 92, .ref 93, .int 0, .ref 94, .ref 95, .ref 96, .ref 97, .ref 98, .int 0, .int 0, .int 0, .int 0, .ref 99, .ref 100, .ref 101, .int 0, .ref 102, .int 0, .int 0, .int 0, .int 0, .int 0, .int 0, .int 0, .int 0, .long 0, .long 0, .int 0, .ref 103, .ref 104, .ref 105, .ref 106, .ref 107, .ref 108, .ref 109, .int 0, .int 0, .ref 110, .ref 111, .ref 112, .ref 113, .ref 114, .int 0, .ref 115, .ref 116, .ref 117, .ref 118, .ref 119]))) _
  refine go_s (pc' := 53) (lv' := [(3, .int 8), (0, .ref 82), (1, .long v)]) (st' := []) rfl rfl rfl ?_
  refine go_goto (tgt := 19) rfl (by decide) ?_
  refine go_s (pc' := 20) (lv' := [(3, .int 8), (0, .ref 82), (1, .long v)]) (st' := [.int 8]) rfl rfl rfl ?_
  refine go_iff rfl (by decide) ?_
  refine go_s (pc' := 24) (lv' := [(3, .int 8), (0, .ref 82), (1, .long v)]) (st' := [.ref 82]) rfl rfl rfl ?_
  refine go_get (v := .ref 91) rfl (ab_rd_self (by show 82 < g.1; rw [hz]; decide)) rfl ?_
  refine go_s (pc' := 28) (lv' := [(3, .int 8), (0, .ref 82), (1, .long v)]) (st' := [.ref 82, .ref 91]) rfl rfl rfl ?_
  refine go_get (v := .int 6) rfl (ab_rd_self (by show 82 < g.1; rw [hz]; decide)) rfl ?_
  refine go_s (pc' := 32) (lv' := [(3, .int 8), (0, .ref 82), (1, .long v)]) (st' := [.long v, .int 6, .ref 91]) rfl rfl rfl ?_
  refine go_s (pc' := 33) (lv' := [(3, .int 8), (0, .ref 82), (1, .long v)]) (st' := [.int 8, .long v, .int 6, .ref 91]) rfl rfl rfl ?_
  obtain ⟨w21, ew21⟩ : ∃ w : Int64, (v >>> (Int32.toInt64 8 &&& 63)) = w := ⟨_, rfl⟩
  refine go_ls (v := w21) rfl rfl (fun _ => rfl) ew21 ?_
  obtain ⟨w22, ew22⟩ : ∃ w : Int32, Int64.toInt32 w21 = w := ⟨_, rfl⟩
  refine go_l2i (v := w22) rfl ew22 ?_
  refine go_sipush (v := 255) rfl (by decide) ?_
  refine go_b2 (v := w22 &&& 255) rfl rfl (fun _ => rfl) rfl ?_
  refine go_ias rfl (by rw [ab_rd_other (by decide)]; exact ab_rd_self (by show 91 < g.1; rw [hz]; decide)) (by decide) (by decide) ?_
  generalize upd f20 (Int32.toNatClampNeg 6) (w22 &&& 255) = f23
  show ab_go 999 ab_M_X10_feed 40 [(3, .int 8), (0, .ref 82), (1, .long v)] [] (ab_wr (ab_wr (ab_wr (ab_wr (ab_wr (ab_wr (ab_wr (ab_wr (ab_wr (ab_wr (ab_wr (ab_wr (ab_wr g 91 (.inl (0, 240, .inl f5))) 82 (.inr (10, [.int 0, .ref 83, .ref 84, .int 0, .ref 85, .ref 86, .ref 87, .ref 88, .ref 89, .ref 90, .int 0, .int 0, .ref 91, .int 1, .int 0, .int 0, .int 0, .int 0, .int 0, .int 0, .int 0, .int 0, .ref 92, .ref 93, .int 0, .ref 94, .ref 95, .ref 96, .ref 97, .ref 98, .int 0, .int 0, .int 0, .int 0, .ref 99, .ref 100, .ref 101, .int 0, .ref 102, .int 0, .int 0, .int 0, .int 0, .int 0, .int 0, .int 0, .int 0, .long 0, .long 0, .int 0, .ref 103, .ref 104, .ref 105, .ref 106, .ref 107, .ref 108, .ref 109, .int 0, .int 0, .ref 110, .ref 111, .ref 112, .ref 113, .ref 114, .int 0, .ref 115, .ref 116, .ref 117, .ref 118, .ref 119]))) 91 (.inl (0, 240, .inl f8))) 82 (.inr (10, [.int 0, .ref 83, .ref 84, .int 0, .ref 85, .ref 86, .ref 87, .ref 88, .ref 89, .ref 90, .int 0, .int 0, .ref 91, .int 2, .int 0, .int 0, .int 0, .int 0, .int 0, .int 0, .int 0, .int 0, .ref 92, .ref 93, .int 0, .ref 94, .ref 95, .ref 96, .ref 97, .ref 98, .int 0, .int 0, .int 0, .int 0, .ref 99, .ref 100, .ref 101, .int 0, .ref 102, .int 0, .int 0, .int 0, .int 0, .int 0, .int 0, .int 0, .int 0, .long 0, .long 0, .int 0, .ref 103, .ref 104, .ref 105, .ref 106, .ref 107, .ref 108, .ref 109, .int 0, .int 0, .ref 110, .ref 111, .ref 112, .ref 113, .ref 114, .int 0, .ref 115, .ref 116, .ref 117, .ref 118, .ref 119]))) 91 (.inl (0, 240, .inl f11))) 82 (.inr (10, [.int 0, .ref 83, .ref 84, .int 0, .ref 85, .ref 86, .ref 87, .ref 88, .ref 89, .ref 90, .int 0, .int 0, .ref 91, .int 3, .int 0, .int 0, .int 0, .int 0, .int 0, .int 0, .int 0, .int 0, .ref 92, .ref 93, .int 0, .ref 94, .ref 95, .ref 96, .ref 97, .ref 98, .int 0, .int 0, .int 0, .int 0, .ref 99, .ref 100, .ref 101, .int 0, .ref 102, .int 0, .int 0, .int 0, .int 0, .int 0, .int 0, .int 0, .int 0, .long 0, .long 0, .int 0, .ref 103, .ref 104, .ref 105, .ref 106, .ref 107, .ref 108, .ref 109, .int 0, .int 0, .ref 110, .ref 111, .ref 112, .ref 113, .ref 114, .int 0, .ref 115, .ref 116, .ref 117, .ref 118, .ref 119]))) 91 (.inl (0, 240, .inl f14))) 82 (.inr (10, [.int 0, .ref 83, .ref 84, .int 0, .ref 85, .ref 86, .ref 87, .ref 88, .ref 89, .ref 90, .int 0, .int 0, .ref 91, .int 4, .int 0, .int 0, .int 0, .int 0, .int 0, .int 0, .int 0, .int 0, .ref 92, .ref 93, .int 0, .ref 94, .ref 95, .ref 96, .ref 97, .ref 98, .int 0, .int 0, .int 0, .int 0, .ref 99, .ref 100, .ref 101, .int 0, .ref 102, .int 0, .int 0, .int 0, .int 0, .int 0, .int 0, .int 0, .int 0, .long 0, .long 0, .int 0, .ref 103, .ref 104, .ref 105, .ref 106, .ref 107, .ref 108, .ref 109, .int 0, .int 0, .ref 110, .ref 111, .ref 112, .ref 113, .ref 114, .int 0, .ref 115, .ref 116, .ref 117, .ref 118, .ref 119]))) 91 (.inl (0, 240, .inl f17))) 82 (.inr (10, [.int 0, .ref 83, .ref 84, .int 0, .ref 85, .ref 86, .ref 87, .ref 88, .ref 89, .ref 90, .int 0, .int 0, .ref 91, .int 5, .int 0, .int 0, .int 0, .int 0, .int 0, .int 0, .int 0, .int 0, .ref 92, .ref 93, .int 0, .ref 94, .ref 95, .ref 96, .ref 97, .ref 98, .int 0, .int 0, .int 0, .int 0, .ref 99, .ref 100, .ref 101, .int 0, .ref 102, .int 0, .int 0, .int 0, .int 0, .int 0, .int 0, .int 0, .int 0, .long 0, .long 0, .int 0, .ref 103, .ref 104, .ref 105, .ref 106, .ref 107, .ref 108, .ref 109, .int 0, .int 0, .ref 110, .ref 111, .ref 112, .ref 113, .ref 114, .int 0, .ref 115, .ref 116, .ref 117, .ref 118, .ref 119]))) 91 (.inl (0, 240, .inl f20))) 82 (.inr (10, [.int 0, .ref 83, .ref 84, .int 0, .ref 85, .ref 86, .ref 87, .ref 88, .ref 89, .ref 90, .int 0, .int 0, .ref 91, .int 6, .int 0, .int 0, .int 0, .int 0, .int 0, .int 0, .int 0, .int 0, .ref 92, .ref 93, .int 0, .ref 94, .ref 95, .ref 96, .ref 97, .ref 98, .int 0, .int 0, .int 0, .int 0, .ref 99, .ref 100, .ref 101, .int 0, .ref 102, .int 0, .int 0, .int 0, .int 0, .int 0, .int 0, .int 0, .int 0, .long 0, .long 0, .int 0, .ref 103, .ref 104, .ref 105, .ref 106, .ref 107, .ref 108, .ref 109, .int 0, .int 0, .ref 110, .ref 111, .ref 112, .ref 113, .ref 114, .int 0, .ref 115, .ref 116, .ref 117, .ref 118, .ref 119]))) 91 (.inl (0, 240, .inl f23))) _
  refine go_s (pc' := 41) (lv' := [(3, .int 8), (0, .ref 82), (1, .long v)]) (st' := [.ref 82]) rfl rfl rfl ?_
  refine go_s (pc' := 42) (lv' := [(3, .int 8), (0, .ref 82), (1, .long v)]) (st' := [.ref 82, .ref 82]) rfl rfl rfl ?_
  refine go_get (v := .int 6) rfl (by rw [ab_rd_other (by decide)]; exact ab_rd_self (by show 82 < g.1; rw [hz]; decide)) rfl ?_
  refine go_iconst (v := 1) rfl (by decide) ?_
  refine go_b2 (v := 7) rfl rfl (fun _ => rfl) (by decide) ?_
  refine go_put (v := .int 7) rfl (by rw [ab_rd_other (by decide)]; exact ab_rd_self (by show 82 < g.1; rw [hz]; decide)) (Nat.le_of_ble_eq_true rfl) (by decide) ?_
  show ab_go 999 ab_M_X10_feed 50 [(3, .int 8), (0, .ref 82), (1, .long v)] [] (ab_wr (ab_wr (ab_wr (ab_wr (ab_wr (ab_wr (ab_wr (ab_wr (ab_wr (ab_wr (ab_wr (ab_wr (ab_wr (ab_wr g 91 (.inl (0, 240, .inl f5))) 82 (.inr (10, [.int 0, .ref 83, .ref 84, .int 0, .ref 85, .ref 86, .ref 87, .ref 88, .ref 89, .ref 90, .int 0, .int 0, .ref 91, .int 1, .int 0, .int 0, .int 0, .int 0, .int 0, .int 0, .int 0, .int 0, .ref 92, .ref 93, .int 0, .ref 94, .ref 95, .ref 96, .ref 97, .ref 98, .int 0, .int 0, .int 0, .int 0, .ref 99, .ref 100, .ref 101, .int 0, .ref 102, .int 0, .int 0, .int 0, .int 0, .int 0, .int 0, .int 0, .int 0, .long 0, .long 0, .int 0, .ref 103, .ref 104, .ref 105, .ref 106, .ref 107, .ref 108, .ref 109, .int 0, .int 0, .ref 110, .ref 111, .ref 112, .ref 113, .ref 114, .int 0, .ref 115, .ref 116, .ref 117, .ref 118, .ref 119]))) 91 (.inl (0, 240, .inl f8))) 82 (.inr (10, [.int 0, .ref 83, .ref 84, .int 0, .ref 85, .ref 86, .ref 87, .ref 88, .ref 89, .ref 90, .int 0, .int 0, .ref 91, .int 2, .int 0, .int 0, .int 0, .int 0, .int 0, .int 0, .int 0, .int 0, .ref 92, .ref 93, .int 0, .ref 94, .ref 95, .ref 96, .ref 97, .ref 98, .int 0, .int 0, .int 0, .int 0, .ref 99, .ref 100, .ref 101, .int 0, .ref 102, .int 0, .int 0, .int 0, .int 0, .int 0, .int 0, .int 0, .int 0, .long 0, .long 0, .int 0, .ref 103, .ref 104, .ref 105, .ref 106, .ref 107, .ref 108, .ref 109, .int 0, .int 0, .ref 110, .ref 111, .ref 112, .ref 113, .ref 114, .int 0, .ref 115, .ref 116, .ref 117, .ref 118, .ref 119]))) 91 (.inl (0, 240, .inl f11))) 82 (.inr (10, [.int 0, .ref 83, .ref 84, .int 0, .ref 85, .ref 86, .ref 87, .ref 88, .ref 89, .ref 90, .int 0, .int 0, .ref 91, .int 3, .int 0, .int 0, .int 0, .int 0, .int 0, .int 0, .int 0, .int 0, .ref 92, .ref 93, .int 0, .ref 94, .ref 95, .ref 96, .ref 97, .ref 98, .int 0, .int 0, .int 0, .int 0, .ref 99, .ref 100, .ref 101, .int 0, .ref 102, .int 0, .int 0, .int 0, .int 0, .int 0, .int 0, .int 0, .int 0, .long 0, .long 0, .int 0, .ref 103, .ref 104, .ref 105, .ref 106, .ref 107, .ref 108, .ref 109, .int 0, .int 0, .ref 110, .ref 111, .ref 112, .ref 113, .ref 114, .int 0, .ref 115, .ref 116, .ref 117, .ref 118, .ref 119]))) 91 (.inl (0, 240, .inl f14))) 82 (.inr (10, [.int 0, .ref 83, .ref 84, .int 0, .ref 85, .ref 86, .ref 87, .ref 88, .ref 89, .ref 90, .int 0, .int 0, .ref 91, .int 4, .int 0, .int 0, .int 0, .int 0, .int 0, .int 0, .int 0, .int 0, .ref 92, .ref 93, .int 0, .ref 94, .ref 95, .ref 96, .ref 97, .ref 98, .int 0, .int 0, .int 0, .int 0, .ref 99, .ref 100, .ref 101, .int 0, .ref 102, .int 0, .int 0, .int 0, .int 0, .int 0, .int 0, .int 0, .int 0, .long 0, .long 0, .int 0, .ref 103, .ref 104, .ref 105, .ref 106, .ref 107, .ref 108, .ref 109, .int 0, .int 0, .ref 110, .ref 111, .ref 112, .ref 113, .ref 114, .int 0, .ref 115, .ref 116, .ref 117, .ref 118, .ref 119]))) 91 (.inl (0, 240, .inl f17))) 82 (.inr (10, [.int 0, .ref 83, .ref 84, .int 0, .ref 85, .ref 86, .ref 87, .ref 88, .ref 89, .ref 90, .int 0, .int 0, .ref 91, .int 5, .int 0, .int 0, .int 0, .int 0, .int 0, .int 0, .int 0, .int 0, .ref 92, .ref 93, .int 0, .ref 94, .ref 95, .ref 96, .ref 97, .ref 98, .int 0, .int 0, .int 0, .int 0, .ref 99, .ref 100, .ref 101, .int 0, .ref 102, .int 0, .int 0, .int 0, .int 0, .int 0, .int 0, .int 0, .int 0, .long 0, .long 0, .int 0, .ref 103, .ref 104, .ref 105, .ref 106, .ref 107, .ref 108, .ref 109, .int 0, .int 0, .ref 110, .ref 111, .ref 112, .ref 113, .ref 114, .int 0, .ref 115, .ref 116, .ref 117, .ref 118, .ref 119]))) 91 (.inl (0, 240, .inl f20))) 82 (.inr (10, [.int 0, .ref 83, .ref 84, .int 0, .ref 85, .ref 86, .ref 87, .ref 88, .ref 89, .ref 90, .int 0, .int 0, .ref 91, .int 6, .int 0, .int 0, .int 0, .int 0, .int 0, .int 0, .int 0, .int 0, .ref 92, .ref 93, .int 0, .ref 94, .ref 95, .ref 96, .ref 97, .ref 98, .int 0, .int 0, .int 0, .int 0, .ref 99, .ref 100, .ref 101, .int 0, .ref 102, .int 0, .int 0, .int 0, .int 0, .int 0, .int 0, .int 0, .int 0, .long 0, .long 0, .int 0, .ref 103, .ref 104, .ref 105, .ref 106, .ref 107, .ref 108, .ref 109, .int 0, .int 0, .ref 110, .ref 111, .ref 112, .ref 113, .ref 114, .int 0, .ref 115, .ref 116, .ref 117, .ref 118, .ref 119]))) 91 (.inl (0, 240, .inl f23))) 82 (.inr (10, [.int 0, .ref 83, .ref 84, .int 0, .ref 85, .ref 86, .ref 87, .ref 88, .ref 89, .ref 90, .int 0, .int 0, .ref 91, .int 7, .int 0, .int 0, .int 0, .int 0, .int 0, .int 0, .int 0, .int 0, .ref 92, .ref 93, .int 0, .ref 94, .ref 95, .ref 96, .ref 97, .ref 98, .int 0, .int 0, .int 0, .int 0, .ref 99, .ref 100, .ref 101, .int 0, .ref 102, .int 0, .int 0, .int 0, .int 0, .int 0, .int 0, .int 0, .int 0, .long 0, .long 0, .int 0, .ref 103, .ref 104, .ref 105, .ref 106, .ref 107, .ref 108, .ref 109, .int 0, .int 0, .ref 110, .ref 111, .ref 112, .ref 113, .ref 114, .int 0, .ref 115, .ref 116, .ref 117, .ref 118, .ref 119]))) _
  refine go_s (pc' := 53) (lv' := [(3, .int 0), (0, .ref 82), (1, .long v)]) (st' := []) rfl rfl rfl ?_
  refine go_goto (tgt := 19) rfl (by decide) ?_
  refine go_s (pc' := 20) (lv' := [(3, .int 0), (0, .ref 82), (1, .long v)]) (st' := [.int 0]) rfl rfl rfl ?_
  refine go_iff rfl (by decide) ?_
  refine go_s (pc' := 24) (lv' := [(3, .int 0), (0, .ref 82), (1, .long v)]) (st' := [.ref 82]) rfl rfl rfl ?_
  refine go_get (v := .ref 91) rfl (ab_rd_self (by show 82 < g.1; rw [hz]; decide)) rfl ?_
  refine go_s (pc' := 28) (lv' := [(3, .int 0), (0, .ref 82), (1, .long v)]) (st' := [.ref 82, .ref 91]) rfl rfl rfl ?_
  refine go_get (v := .int 7) rfl (ab_rd_self (by show 82 < g.1; rw [hz]; decide)) rfl ?_
  refine go_s (pc' := 32) (lv' := [(3, .int 0), (0, .ref 82), (1, .long v)]) (st' := [.long v, .int 7, .ref 91]) rfl rfl rfl ?_
  refine go_s (pc' := 33) (lv' := [(3, .int 0), (0, .ref 82), (1, .long v)]) (st' := [.int 0, .long v, .int 7, .ref 91]) rfl rfl rfl ?_
  obtain ⟨w24, ew24⟩ : ∃ w : Int64, (v >>> (Int32.toInt64 0 &&& 63)) = w := ⟨_, rfl⟩
  refine go_ls (v := w24) rfl rfl (fun _ => rfl) ew24 ?_
  obtain ⟨w25, ew25⟩ : ∃ w : Int32, Int64.toInt32 w24 = w := ⟨_, rfl⟩
  refine go_l2i (v := w25) rfl ew25 ?_
  refine go_sipush (v := 255) rfl (by decide) ?_
  refine go_b2 (v := w25 &&& 255) rfl rfl (fun _ => rfl) rfl ?_
  refine go_ias rfl (by rw [ab_rd_other (by decide)]; exact ab_rd_self (by show 91 < g.1; rw [hz]; decide)) (by decide) (by decide) ?_
  generalize upd f23 (Int32.toNatClampNeg 7) (w25 &&& 255) = f26
  show ab_go 999 ab_M_X10_feed 40 [(3, .int 0), (0, .ref 82), (1, .long v)] [] (ab_wr (ab_wr (ab_wr (ab_wr (ab_wr (ab_wr (ab_wr (ab_wr (ab_wr (ab_wr (ab_wr (ab_wr (ab_wr (ab_wr (ab_wr g 91 (.inl (0, 240, .inl f5))) 82 (.inr (10, [.int 0, .ref 83, .ref 84, .int 0, .ref 85, .ref 86, .ref 87, .ref 88, .ref 89, .ref 90, .int 0, .int 0, .ref 91, .int 1, .int 0, .int 0, .int 0, .int 0, .int 0, .int 0, .int 0, .int 0, .ref 92, .ref 93, .int 0, .ref 94, .ref 95, .ref 96, .ref 97, .ref 98, .int 0, .int 0, .int 0, .int 0, .ref 99, .ref 100, .ref 101, .int 0, .ref 102, .int 0, .int 0, .int 0, .int 0, .int 0, .int 0, .int 0, .int 0, .long 0, .long 0, .int 0, .ref 103, .ref 104, .ref 105, .ref 106, .ref 107, .ref 108, .ref 109, .int 0, .int 0, .ref 110, .ref 111, .ref 112, .ref 113, .ref 114, .int 0, .ref 115, .ref 116, .ref 117, .ref 118, .ref 119]))) 91 (.inl (0, 240, .inl f8))) 82 (.inr (10, [.int 0, .ref 83, .ref 84, .int 0, .ref 85, .ref 86, .ref 87, .ref 88, .ref 89, .ref 90, .int 0, .int 0, .ref 91, .int 2, .int 0, .int 0, .int 0, .int 0, .int 0, .int 0, .int 0, .int 0, .ref 92, .ref 93, .int 0, .ref 94, .ref 95, .ref 96, .ref 97, .ref 98, .int 0, .int 0, .int 0, .int 0, .ref 99, .ref 100, .ref 101, .int 0, .ref 102, .int 0, .int 0, .int 0, .int 0, .int 0, .int 0, .int 0, .int 0, .long 0, .long 0, .int 0, .ref 103, .ref 104, .ref 105, .ref 106, .ref 107, .ref 108, .ref 109, .int 0, .int 0, .ref 110, .ref 111, .ref 112, .ref 113, .ref 114, .int 0, .ref 115, .ref 116, .ref 117, .ref 118, .ref 119]))) 91 (.inl (0, 240, .inl f11))) 82 (.inr (10, [.int 0, .ref 83, .ref 84, .int 0, .ref 85, .ref 86, .ref 87, .ref 88, .ref 89, .ref 90, .int 0, .int 0, .ref 91, .int 3, .int 0, .int 0, .int 0, .int 0, .int 0, .int 0, .int 0, .int 0, .ref 92, .ref 93, .int 0, .ref 94, .ref 95, .ref 96, .ref 97, .ref 98, .int 0, .int 0, .int 0, .int 0, .ref 99, .ref 100, .ref 101, .int 0, .ref 102, .int 0, .int 0, .int 0, .int 0, .int 0, .int 0, .int 0, .int 0, .long 0, .long 0, .int 0, .ref 103, .ref 104, .ref 105, .ref 106, .ref 107, .ref 108, .ref 109, .int 0, .int 0, .ref 110, .ref 111, .ref 112, .ref 113, .ref 114, .int 0, .ref 115, .ref 116, .ref 117, .ref 118, .ref 119]))) 91 (.inl (0, 240, .inl f14))) 82 (.inr (10, [.int 0, .ref 83, .ref 84, .int 0, .ref 85, .ref 86, .ref 87, .ref 88, .ref 89, .ref 90, .int 0, .int 0, .ref 91, .int 4, .int 0, .int 0, .int 0, .int 0, .int 0, .int 0, .int 0, .int 0, .ref 92, .ref 93, .int 0, .ref 94, .ref 95, .ref 96, .ref 97, .ref 98, .int 0, .int 0, .int 0, .int 0, .ref 99, .ref 100, .ref 101, .int 0, .ref 102, .int 0, .int 0, .int 0, .int 0, .int 0, .int 0, .int 0, .int 0, .long 0, .long 0, .int 0, .ref 103, .ref 104, .ref 105, .ref 106, .ref 107, .ref 108, .ref 109, .int 0, .int 0, .ref 110, .ref 111, .ref 112, .ref 113, .ref 114, .int 0, .ref 115, .ref 116, .ref 117, .ref 118, .ref 119]))) 91 (.inl (0, 240, .inl f17))) 82 (.inr (10, [.int 0, .ref 83, .ref 84, .int 0, .ref 85, .ref 86, .ref 87, .ref 88, .ref 89, .ref 90, .int 0, .int 0, .ref 91, .int 5, .int 0, .int 0, .int 0, .int 0, .int 0, .int 0, .int 0, .int 0, .ref 92, .ref 93, .int 0, .ref 94, .ref 95, .ref 96, .ref 97, .ref 98, .int 0, .int 0, .int 0, .int 0, .ref 99, .ref 100, .ref 101, .int 0, .ref 102, .int 0, .int 0, .int 0, .int 0, .int 0, .int 0, .int 0, .int 0, .long 0, .long 0, .int 0, .ref 103, .ref 104, .ref 105, .ref 106, .ref 107, .ref 108, .ref 109, .int 0, .int 0, .ref 110, .ref 111, .ref 112, .ref 113, .ref 114, .int 0, .ref 115, .ref 116, .ref 117, .ref 118, .ref 119]))) 91 (.inl (0, 240, .inl f20))) 82 (.inr (10, [.int 0, .ref 83, .ref 84, .int 0, .ref 85, .ref 86, .ref 87, .ref 88, .ref 89, .ref 90, .int 0, .int 0, .ref 91, .int 6, .int 0, .int 0, .int 0, .int 0, .int 0, .int 0, .int 0, .int 0, .ref 92, .ref 93, .int 0, .ref 94, .ref 95, .ref 96, .ref 97, .ref 98, .int 0, .int 0, .int 0, .int 0, .ref 99, .ref 100, .ref 101, .int 0, .ref 102, .int 0, .int 0, .int 0, .int 0, .int 0, .int 0, .int 0, .int 0, .long 0, .long 0, .int 0, .ref 103, .ref 104, .ref 105, .ref 106, .ref 107, .ref 108, .ref 109, .int 0, .int 0, .ref 110, .ref 111, .ref 112, .ref 113, .ref 114, .int 0, .ref 115, .ref 116, .ref 117, .ref 118, .ref 119]))) 91 (.inl (0, 240, .inl f23))) 82 (.inr (10, [.int 0, .ref 83, .ref 84, .int 0, .ref 85, .ref 86, .ref 87, .ref 88, .ref 89, .ref 90, .int 0, .int 0, .ref 91, .int 7, .int 0, .int 0, .int 0, .int 0, .int 0, .int 0, .int 0, .int 0, .ref 92, .ref 93, .int 0, .ref 94, .ref 95, .ref 96, .ref 97, .ref 98, .int 0, .int 0, .int 0, .int 0, .ref 99, .ref 100, .ref 101, .int 0, .ref 102, .int 0, .int 0, .int 0, .int 0, .int 0, .int 0, .int 0, .int 0, .long 0, .long 0, .int 0, .ref 103, .ref 104, .ref 105, .ref 106, .ref 107, .ref 108, .ref 109, .int 0, .int 0, .ref 110, .ref 111, .ref 112, .ref 113, .ref 114, .int 0, .ref 115, .ref 116, .ref 117, .ref 118, .ref 119]))) 91 (.inl (0, 240, .inl f26))) _
  refine go_s (pc' := 41) (lv' := [(3, .int 0), (0, .ref 82), (1, .long v)]) (st' := [.ref 82]) rfl rfl rfl ?_
  refine go_s (pc' := 42) (lv' := [(3, .int 0), (0, .ref 82), (1, .long v)]) (st' := [.ref 82, .ref 82]) rfl rfl rfl ?_
  refine go_get (v := .int 7) rfl (by rw [ab_rd_other (by decide)]; exact ab_rd_self (by show 82 < g.1; rw [hz]; decide)) rfl ?_
  refine go_iconst (v := 1) rfl (by decide) ?_
  refine go_b2 (v := 8) rfl rfl (fun _ => rfl) (by decide) ?_
  refine go_put (v := .int 8) rfl (by rw [ab_rd_other (by decide)]; exact ab_rd_self (by show 82 < g.1; rw [hz]; decide)) (Nat.le_of_ble_eq_true rfl) (by decide) ?_
  show ab_go 999 ab_M_X10_feed 50 [(3, .int 0), (0, .ref 82), (1, .long v)] [] (ab_wr (ab_wr (ab_wr (ab_wr (ab_wr (ab_wr (ab_wr (ab_wr (ab_wr (ab_wr (ab_wr (ab_wr (ab_wr (ab_wr (ab_wr (ab_wr g 91 (.inl (0, 240, .inl f5))) 82 (.inr (10, [.int 0, .ref 83, .ref 84, .int 0, .ref 85, .ref 86, .ref 87, .ref 88, .ref 89, .ref 90, .int 0, .int 0, .ref 91, .int 1, .int 0, .int 0, .int 0, .int 0, .int 0, .int 0, .int 0, .int 0, .ref 92, .ref 93, .int 0, .ref 94, .ref 95, .ref 96, .ref 97, .ref 98, .int 0, .int 0, .int 0, .int 0, .ref 99, .ref 100, .ref 101, .int 0, .ref 102, .int 0, .int 0, .int 0, .int 0, .int 0, .int 0, .int 0, .int 0, .long 0, .long 0, .int 0, .ref 103, .ref 104, .ref 105, .ref 106, .ref 107, .ref 108, .ref 109, .int 0, .int 0, .ref 110, .ref 111, .ref 112, .ref 113, .ref 114, .int 0, .ref 115, .ref 116, .ref 117, .ref 118, .ref 119]))) 91 (.inl (0, 240, .inl f8))) 82 (.inr (10, [.int 0, .ref 83, .ref 84, .int 0, .ref 85, .ref 86, .ref 87, .ref 88, .ref 89, .ref 90, .int 0, .int 0, .ref 91, .int 2, .int 0, .int 0, .int 0, .int 0, .int 0, .int 0, .int 0, .int 0, .ref 92, .ref 93, .int 0, .ref 94, .ref 95, .ref 96, .ref 97, .ref 98, .int 0, .int 0, .int 0, .int 0, .ref 99, .ref 100, .ref 101, .int 0, .ref 102, .int 0, .int 0, .int 0, .int 0, .int 0, .int 0, .int 0, .int 0, .long 0, .long 0, .int 0, .ref 103, .ref 104, .ref 105, .ref 106, .ref 107, .ref 108, .ref 109, .int 0, .int 0, .ref 110, .ref 111, .ref 112, .ref 113, .ref 114, .int 0, .ref 115, .ref 116, .ref 117, .ref 118, .ref 119]))) 91 (.inl (0, 240, .inl f11))) 82 (.inr (10, [.int 0, .ref 83, .ref 84, .int 0, .ref 85, .ref 86, .ref 87, .ref 88, .ref 89, .ref 90, .int 0, .int 0, .ref 91, .int 3, .int 0, .int 0, .int 0, .int 0, .int 0, .int 0, .int 0, .int 0, .ref 92, .ref 93, .int 0, .ref 94, .ref 95, .ref 96, .ref 97, .ref 98, .int 0, .int 0, .int 0, .int 0, .ref 99, .ref 100, .ref 101, .int 0, .ref 102, .int 0, .int 0, .int 0, .int 0, .int 0, .int 0, .int 0, .int 0, .long 0, .long 0, .int 0, .ref 103, .ref 104, .ref 105, .ref 106, .ref 107, .ref 108, .ref 109, .int 0, .int 0, .ref 110, .ref 111, .ref 112, .ref 113, .ref 114, .int 0, .ref 115, .ref 116, .ref 117, .ref 118, .ref 119]))) 91 (.inl (0, 240, .inl f14))) 82 (.inr (10, [.int 0, .ref 83, .ref 84, .int 0, .ref 85, .ref 86, .ref 87, .ref 88, .ref 89, .ref 90, .int 0, .int 0, .ref 91, .int 4, .int 0, .int 0, .int 0, .int 0, .int 0, .int 0, .int 0, .int 0, .ref 92, .ref 93, .int 0, .ref 94, .ref 95, .ref 96, .ref 97, .ref 98, .int 0, .int 0, .int 0, .int 0, .ref 99, .ref 100, .ref 101, .int 0, .ref 102, .int 0, .int 0, .int 0, .int 0, .int 0, .int 0, .int 0, .int 0, .long 0, .long 0, .int 0, .ref 103, .ref 104, .ref 105, .ref 106, .ref 107, .ref 108, .ref 109, .int 0, .int 0, .ref 110, .ref 111, .ref 112, .ref 113, .ref 114, .int 0, .ref 115, .ref 116, .ref 117, .ref 118, .ref 119]))) 91 (.inl (0, 240, .inl f17))) 82 (.inr (10, [.int 0, .ref 83, .ref 84, .int 0, .ref 85, .ref 86, .ref 87, .ref 88, .ref 89, .ref 90, .int 0, .int 0, .ref 91, .int 5, .int 0, .int 0, .int 0, .int 0, .int 0, .int 0, .int 0, .int 0, .ref 92, .ref 93, .int 0, .ref 94, .ref 95, .ref 96, .ref 97, .ref 98, .int 0, .int 0, .int 0, .int 0, .ref 99, .ref 100, .ref 101, .int 0, .ref 102, .int 0, .int 0, .int 0, .int 0, .int 0, .int 0, .int 0, .int 0, .long 0, .long 0, .int 0, .ref 103, .ref 104, .ref 105, .ref 106, .ref 107, .ref 108, .ref 109, .int 0, .int 0, .ref 110, .ref 111, .ref 112, .ref 113, .ref 114, .int 0, .ref 115, .ref 116, .ref 117, .ref 118, .ref 119]))) 91 (.inl (0, 240, .inl f20))) 82 (.inr (10, [.int 0, .ref 83, .ref 84, .int 0, .ref 85, .ref 86, .ref 87, .ref 88, .ref 89, .ref 90, .int 0, .int 0, .ref 91, .int 6, .int 0, .int 0, .int 0, .int 0, .int 0, .int 0, .int 0, .int 0, .ref 92, .ref 93, .int 0, .ref 94, .ref 95, .ref 96, .ref 97, .ref 98, .int 0, .int 0, .int 0, .int 0, .ref 99, .ref 100, .ref 101, .int 0, .ref 102, .int 0, .int 0, .int 0, .int 0, .int 0, .int 0, .int 0, .int 0, .long 0, .long 0, .int 0, .ref 103, .ref 104, .ref 105, .ref 106, .ref 107, .ref 108, .ref 109, .int 0, .int 0, .ref 110, .ref 111, .ref 112, .ref 113, .ref 114, .int 0, .ref 115, .ref 116, .ref 117, .ref 118, .ref 119]))) 91 (.inl (0, 240, .inl f23))) 82 (.inr (10, [.int 0, .ref 83, .ref 84, .int 0, .ref 85, .ref 86, .ref 87, .ref 88, .ref 89, .ref 90, .int 0, .int 0, .ref 91, .int 7, .int 0, .int 0, .int 0, .int 0, .int 0, .int 0, .int 0, .int 0, .ref 92, .ref 93, .int 0, .ref 94, .ref 95, .ref 96, .ref 97, .ref 98, .int 0, .int 0, .int 0, .int 0, .ref 99, .ref 100, .ref 101, .int 0, .ref 102, .int 0, .int 0, .int 0, .int 0, .int 0, .int 0, .int 0, .int 0, .long 0, .long 0, .int 0, .ref 103, .ref 104, .ref 105, .ref 106, .ref 107, .ref 108, .ref 109, .int 0, .int 0, .ref 110, .ref 111, .ref 112, .ref 113, .ref 114, .int 0, .ref 115, .ref 116, .ref 117, .ref 118, .ref 119]))) 91 (.inl (0, 240, .inl f26))) 82 (.inr (10, [.int 0, .ref 83, .ref 84, .int 0, .ref 85, .ref 86, .ref 87, .ref 88, .ref 89, .ref 90, .int 0, .int 0, .ref 91, .int 8, .int 0, .int 0, .int 0, .int 0, .int 0, .int 0, .int 0, .int 0, .ref 92, .ref 93, .int 0, .ref 94, .ref 95, .ref 96, .ref 97, .ref 98, .int 0, .int 0, .int 0, .int 0, .ref 99, .ref 100, .ref 101, .int 0, .ref 102, .int 0, .int 0, .int 0, .int 0, .int 0, .int 0, .int 0, .int 0, .long 0, .long 0, .int 0, .ref 103, .ref 104, .ref 105, .ref 106, .ref 107, .ref 108, .ref 109, .int 0, .int 0, .ref 110, .ref 111, .ref 112, .ref 113, .ref 114, .int 0, .ref 115, .ref 116, .ref 117, .ref 118, .ref 119]))) _
  refine go_s (pc' := 53) (lv' := [(3, .int (-8)), (0, .ref 82), (1, .long v)]) (st' := []) rfl rfl rfl ?_
  refine go_goto (tgt := 19) rfl (by decide) ?_
  refine go_s (pc' := 20) (lv' := [(3, .int (-8)), (0, .ref 82), (1, .long v)]) (st' := [.int (-8)]) rfl rfl rfl ?_
  refine go_ift (tgt := 56) rfl (by decide) (by decide) ?_
  refine go_s (pc' := 57) (lv' := [(3, .int (-8)), (0, .ref 82), (1, .long v)]) (st' := [.ref 82]) rfl rfl rfl ?_
  refine go_get (v := .int 8) rfl (ab_rd_self (by show 82 < g.1; rw [hz]; decide)) rfl ?_
  refine go_ri rfl rfl ?_
  exact ⟨rfl, ((((((((((((((((x0.wr (by decide) _).wr (by decide) _).wr (by decide) _).wr (by decide) _).wr (by decide) _).wr (by decide) _).wr (by decide) _).wr (by decide) _).wr (by decide) _).wr (by decide) _).wr (by decide) _).wr (by decide) _).wr (by decide) _).wr (by decide) _).wr (by decide) _).wr (by decide) _)⟩
set_option maxHeartbeats 16000000 in
set_option maxRecDepth 20000 in
theorem m_end {g : ab_H} (q : ab_sim p1_Sm p1_Hm g) (n : Int32) : ab_go 999 ab_M_X10_end 0 [(0, .ref 82), (1, .int n)] [] g (fun r g' => r = some (.int (an_end n)) ∧ p1_Y g g') := by
  have hz : g.1 = 120 := q.1.symm
  have x0 : p1_Y g g := ⟨q.1.symm, q.2.1.symm, rfl⟩
  refine go_s (pc' := 1) (lv' := [(0, .ref 82), (1, .int n)]) (st' := [.int n]) rfl rfl rfl ?_
  refine go_i2l (v := Int32.toInt64 n) rfl rfl ?_
  refine go_lconst (v := 0) rfl (by decide) ?_
  refine go_s (pc' := 4) (lv' := [(0, .ref 82), (1, .int n)]) (st' := [.ref 82, .long 0, .long (Int32.toInt64 n)]) rfl rfl rfl ?_
  refine go_get (v := .int 0) rfl (ab_fo q p1_o_p1_Hm_82 (by decide)) rfl ?_
  refine go_i2l (v := 0) rfl (by decide) ?_
  refine go_cc rfl rfl rfl (lv0 := [(0, .long (Int32.toInt64 n)), (2, .long 0), (4, .long 0)]) rfl ?_
  refine go_s (pc' := 1) (lv' := [(0, .long (Int32.toInt64 n)), (2, .long 0), (4, .long 0)]) (st' := [.long (Int32.toInt64 n)]) rfl rfl rfl ?_
  refine go_s (pc' := 2) (lv' := [(0, .long (Int32.toInt64 n)), (2, .long 0), (4, .long 0)]) (st' := [.long 0, .long (Int32.toInt64 n)]) rfl rfl rfl ?_
  refine go_lc (v := lg_cmp (Int32.toInt64 n) 0) rfl rfl ?_
  refine go_ifl (tgt := 17) rfl (by decide) (fun c => ?_) (fun c => ?_)
  ·
    have c1 : n.toInt < 0 := by first | exact c | (rw [Int32.toInt_toInt64] at c; exact c) | (rw [Int32.toInt_toInt64, Int32.toInt_toInt64] at c; exact c)
    refine go_iconst (v := 0) rfl (by decide) ?_
    refine go_rz rfl rfl (by decide) ?_
    show ab_go 999 ab_M_X10_end 11 [(0, .ref 82), (1, .int n)] [.int 0] g _
    refine go_iff rfl (by decide) ?_
    refine go_iconst (v := (-1)) rfl (by decide) ?_
    refine go_ri rfl rfl ?_
    exact ⟨(by unfold an_end; first | (rw [if_pos (by omega)]; done) | (rw [if_neg (by omega)]; done) | (rw [if_neg (by omega), if_pos (by omega)]; done) | (rw [if_neg (by omega), if_neg (by omega)]; done) | (rw [if_pos (by omega), if_pos (by omega)]; done) | (rw [if_pos (by omega), if_neg (by omega)]; done) | decide | (simp; omega)), x0⟩
  ·
    have c2 : ¬ n.toInt < 0 := by first | exact c | (rw [Int32.toInt_toInt64] at c; exact c) | (rw [Int32.toInt_toInt64, Int32.toInt_toInt64] at c; exact c)
    refine go_s (pc' := 7) (lv' := [(0, .long (Int32.toInt64 n)), (2, .long 0), (4, .long 0)]) (st' := [.long (Int32.toInt64 n)]) rfl rfl rfl ?_
    refine go_s (pc' := 9) (lv' := [(0, .long (Int32.toInt64 n)), (2, .long 0), (4, .long 0)]) (st' := [.long 0, .long (Int32.toInt64 n)]) rfl rfl rfl ?_
    refine go_lc (v := lg_cmp (Int32.toInt64 n) 0) rfl rfl ?_
    refine go_ifl (tgt := 17) rfl (by decide) (fun c => ?_) (fun c => ?_)
    ·
      have c3 : 0 < n.toInt := by first | exact c | (rw [Int32.toInt_toInt64] at c; exact c) | (rw [Int32.toInt_toInt64, Int32.toInt_toInt64] at c; exact c)
      refine go_iconst (v := 0) rfl (by decide) ?_
      refine go_rz rfl rfl (by decide) ?_
      show ab_go 999 ab_M_X10_end 11 [(0, .ref 82), (1, .int n)] [.int 0] g _
      refine go_iff rfl (by decide) ?_
      refine go_iconst (v := (-1)) rfl (by decide) ?_
      refine go_ri rfl rfl ?_
      exact ⟨(by unfold an_end; first | (rw [if_pos (by omega)]; done) | (rw [if_neg (by omega)]; done) | (rw [if_neg (by omega), if_pos (by omega)]; done) | (rw [if_neg (by omega), if_neg (by omega)]; done) | (rw [if_pos (by omega), if_pos (by omega)]; done) | (rw [if_pos (by omega), if_neg (by omega)]; done) | decide | (simp; omega)), x0⟩
    ·
      have c4 : ¬ 0 < n.toInt := by first | exact c | (rw [Int32.toInt_toInt64] at c; exact c) | (rw [Int32.toInt_toInt64, Int32.toInt_toInt64] at c; exact c)
      refine go_iconst (v := 1) rfl (by decide) ?_
      refine go_goto (tgt := 18) rfl (by decide) ?_
      refine go_rz rfl rfl (by decide) ?_
      show ab_go 999 ab_M_X10_end 11 [(0, .ref 82), (1, .int n)] [.int 1] g _
      refine go_ift (tgt := 16) rfl (by decide) (by decide) ?_
      refine go_s (pc' := 17) (lv' := [(0, .ref 82), (1, .int n)]) (st' := [.ref 82]) rfl rfl rfl ?_
      refine go_get (v := .int 0) rfl (ab_fo q p1_o_p1_Hm_82 (by decide)) rfl ?_
      refine go_s (pc' := 21) (lv' := [(2, .int 0), (0, .ref 82), (1, .int n)]) (st' := []) rfl rfl rfl ?_
      refine go_s (pc' := 22) (lv' := [(2, .int 0), (0, .ref 82), (1, .int n)]) (st' := [.ref 82]) rfl rfl rfl ?_
      refine go_s (pc' := 23) (lv' := [(2, .int 0), (0, .ref 82), (1, .int n)]) (st' := [.int n, .ref 82]) rfl rfl rfl ?_
      refine go_put (v := .int n) rfl (ab_fo q p1_o_p1_Hm_82 (by decide)) (Nat.le_of_ble_eq_true rfl) (ab_fit_i _) ?_
      show ab_go 999 ab_M_X10_end 26 [(2, .int 0), (0, .ref 82), (1, .int n)] [] (ab_wr g 82 (.inr (10, [.int 0, .ref 83, .ref 84, .int 0, .ref 85, .ref 86, .ref 87, .ref 88, .ref 89, .ref 90, .int 0, .int 0, .ref 91, .int n, .int 0, .int 0, .int 0, .int 0, .int 0, .int 0, .int 0, .int 0, .ref 92, .ref 93, .int 0, .ref 94, .ref 95, .ref 96, .ref 97, .ref 98, .int 0, .int 0, .int 0, .int 0, .ref 99, .ref 100, .ref 101, .int 0, .ref 102, .int 0, .int 0, .int 0, .int 0, .int 0, .int 0, .int 0, .int 0, .long 0, .long 0, .int 0, .ref 103, .ref 104, .ref 105, .ref 106, .ref 107, .ref 108, .ref 109, .int 0, .int 0, .ref 110, .ref 111, .ref 112, .ref 113, .ref 114, .int 0, .ref 115, .ref 116, .ref 117, .ref 118, .ref 119]))) _
      refine go_s (pc' := 27) (lv' := [(2, .int 0), (0, .ref 82), (1, .int n)]) (st' := [.int 0]) rfl rfl rfl ?_
      refine go_ri rfl rfl ?_
      exact ⟨(by unfold an_end; first | (rw [if_pos (by omega)]; done) | (rw [if_neg (by omega)]; done) | (rw [if_neg (by omega), if_pos (by omega)]; done) | (rw [if_neg (by omega), if_neg (by omega)]; done) | (rw [if_pos (by omega), if_pos (by omega)]; done) | (rw [if_pos (by omega), if_neg (by omega)]; done) | decide | (simp; omega)), (x0.wr (by decide) _)⟩
set_option maxHeartbeats 16000000 in
set_option maxRecDepth 20000 in
theorem m_text {g : ab_H} (q : ab_sim p1_Sm p1_Hm g) : ab_go 999 ab_M_X10_text 0 [(0, .ref 82)] [] g (fun r g' => r = some (.int 0) ∧ p1_Y g g') := by
  have x0 : p1_Y g g := ⟨q.1.symm, q.2.1.symm, rfl⟩
  obtain ⟨n, r, hF, hx, hr, z, w0, q1, f0⟩ := go_sim p1_R22 q
  exact ⟨n, r, hF, hx, hr, x0.next f0 z w0⟩
set_option maxHeartbeats 16000000 in
set_option maxRecDepth 20000 in
theorem m_fault {g : ab_H} (q : ab_sim p1_Sm p1_Hm g) : ab_go 999 ab_M_X10_fault 0 [(0, .ref 82)] [] g (fun r g' => r = some (.int 0) ∧ p1_Y g g') := by
  have x0 : p1_Y g g := ⟨q.1.symm, q.2.1.symm, rfl⟩
  obtain ⟨n, r, hF, hx, hr, z, w0, q1, f0⟩ := go_sim p1_R23 q
  exact ⟨n, r, hF, hx, hr, x0.next f0 z w0⟩
set_option maxHeartbeats 16000000 in
set_option maxRecDepth 20000 in
theorem m_wire {g : ab_H} (q : ab_sim p1_Sm p1_Hm g) (w : Int32) (what : Int32) : ab_go 999 ab_M_X10_wire 0 [(0, .ref 82), (1, .int w), (2, .int what)] [] g (fun r g' => r = some (.int (-1)) ∧ p1_Y g g') := by
  have hz : g.1 = 120 := q.1.symm
  have x0 : p1_Y g g := ⟨q.1.symm, q.2.1.symm, rfl⟩
  refine go_s (pc' := 1) (lv' := [(0, .ref 82), (1, .int w), (2, .int what)]) (st' := [.ref 82]) rfl rfl rfl ?_
  refine go_s (pc' := 2) (lv' := [(0, .ref 82), (1, .int w), (2, .int what)]) (st' := [.int w, .ref 82]) rfl rfl rfl ?_
  refine go_cc rfl rfl (ab_cal_v (As := [.int w]) (rest := []) rfl rfl rfl (ab_fo q p1_o_p1_Hm_82 (by decide)) rfl rfl rfl rfl) (lv0 := [(0, .ref 82), (1, .int w)]) rfl ?_
  refine go_s (pc' := 1) (lv' := [(0, .ref 82), (1, .int w)]) (st' := [.int w]) rfl rfl rfl ?_
  refine go_i2l (v := Int32.toInt64 w) rfl rfl ?_
  refine go_lconst (v := 0) rfl (by decide) ?_
  refine go_s (pc' := 4) (lv' := [(0, .ref 82), (1, .int w)]) (st' := [.ref 82, .long 0, .long (Int32.toInt64 w)]) rfl rfl rfl ?_
  refine go_get (v := .int 0) rfl (ab_fo q p1_o_p1_Hm_82 (by decide)) rfl ?_
  refine go_iconst (v := 1) rfl (by decide) ?_
  refine go_b2 (v := (-1)) rfl rfl (fun _ => rfl) (by decide) ?_
  refine go_i2l (v := (-1)) rfl (by decide) ?_
  refine go_cc rfl rfl rfl (lv0 := [(0, .long (Int32.toInt64 w)), (2, .long 0), (4, .long (-1))]) rfl ?_
  refine go_s (pc' := 1) (lv' := [(0, .long (Int32.toInt64 w)), (2, .long 0), (4, .long (-1))]) (st' := [.long (Int32.toInt64 w)]) rfl rfl rfl ?_
  refine go_s (pc' := 2) (lv' := [(0, .long (Int32.toInt64 w)), (2, .long 0), (4, .long (-1))]) (st' := [.long 0, .long (Int32.toInt64 w)]) rfl rfl rfl ?_
  refine go_lc (v := lg_cmp (Int32.toInt64 w) 0) rfl rfl ?_
  refine go_ifl (tgt := 17) rfl (by decide) (fun c => ?_) (fun c => ?_)
  ·
    have c1 : w.toInt < 0 := by first | exact c | (rw [Int32.toInt_toInt64] at c; exact c) | (rw [Int32.toInt_toInt64, Int32.toInt_toInt64] at c; exact c)
    refine go_iconst (v := 0) rfl (by decide) ?_
    refine go_rz rfl rfl (by decide) ?_
    show ab_go 998 ab_M_X10_isWire 13 [(0, .ref 82), (1, .int w)] [.int 0] g _
    refine go_rz rfl rfl (by decide) ?_
    show ab_go 999 ab_M_X10_wire 5 [(0, .ref 82), (1, .int w), (2, .int what)] [.int 0] g _
    refine go_iff rfl (by decide) ?_
    refine go_iconst (v := (-1)) rfl (by decide) ?_
    refine go_ri rfl rfl ?_
    exact ⟨rfl, x0⟩
  ·
    have c2 : ¬ w.toInt < 0 := by first | exact c | (rw [Int32.toInt_toInt64] at c; exact c) | (rw [Int32.toInt_toInt64, Int32.toInt_toInt64] at c; exact c)
    refine go_s (pc' := 7) (lv' := [(0, .long (Int32.toInt64 w)), (2, .long 0), (4, .long (-1))]) (st' := [.long (Int32.toInt64 w)]) rfl rfl rfl ?_
    refine go_s (pc' := 9) (lv' := [(0, .long (Int32.toInt64 w)), (2, .long 0), (4, .long (-1))]) (st' := [.long (-1), .long (Int32.toInt64 w)]) rfl rfl rfl ?_
    refine go_lc (v := lg_cmp (Int32.toInt64 w) (-1)) rfl rfl ?_
    refine go_ifl (tgt := 17) rfl (by decide) (fun c => ?_) (fun c => ?_)
    ·
      have c3 : (-1) < w.toInt := by first | exact c | (rw [Int32.toInt_toInt64] at c; exact c) | (rw [Int32.toInt_toInt64, Int32.toInt_toInt64] at c; exact c)
      refine go_iconst (v := 0) rfl (by decide) ?_
      refine go_rz rfl rfl (by decide) ?_
      show ab_go 998 ab_M_X10_isWire 13 [(0, .ref 82), (1, .int w)] [.int 0] g _
      refine go_rz rfl rfl (by decide) ?_
      show ab_go 999 ab_M_X10_wire 5 [(0, .ref 82), (1, .int w), (2, .int what)] [.int 0] g _
      refine go_iff rfl (by decide) ?_
      refine go_iconst (v := (-1)) rfl (by decide) ?_
      refine go_ri rfl rfl ?_
      exact ⟨rfl, x0⟩
    ·
      have c4 : ¬ (-1) < w.toInt := by first | exact c | (rw [Int32.toInt_toInt64] at c; exact c) | (rw [Int32.toInt_toInt64, Int32.toInt_toInt64] at c; exact c)
      exfalso; omega
set_option maxHeartbeats 16000000 in
set_option maxRecDepth 20000 in
theorem m_event {g : ab_H} (q : ab_sim p1_Sm p1_Hm g) (e : Int32) (what : Int32) : ab_go 999 ab_M_X10_event 0 [(0, .ref 82), (1, .int e), (2, .int what)] [] g (fun r g' => r = some (.int (-1)) ∧ p1_Y g g') := by
  have hz : g.1 = 120 := q.1.symm
  have x0 : p1_Y g g := ⟨q.1.symm, q.2.1.symm, rfl⟩
  refine go_s (pc' := 1) (lv' := [(0, .ref 82), (1, .int e), (2, .int what)]) (st' := [.ref 82]) rfl rfl rfl ?_
  refine go_s (pc' := 2) (lv' := [(0, .ref 82), (1, .int e), (2, .int what)]) (st' := [.int e, .ref 82]) rfl rfl rfl ?_
  refine go_cc rfl rfl (ab_cal_v (As := [.int e]) (rest := []) rfl rfl rfl (ab_fo q p1_o_p1_Hm_82 (by decide)) rfl rfl rfl rfl) (lv0 := [(0, .ref 82), (1, .int e)]) rfl ?_
  refine go_s (pc' := 1) (lv' := [(0, .ref 82), (1, .int e)]) (st' := [.int e]) rfl rfl rfl ?_
  refine go_i2l (v := Int32.toInt64 e) rfl rfl ?_
  refine go_lconst (v := 0) rfl (by decide) ?_
  refine go_s (pc' := 4) (lv' := [(0, .ref 82), (1, .int e)]) (st' := [.ref 82, .long 0, .long (Int32.toInt64 e)]) rfl rfl rfl ?_
  refine go_get (v := .int 0) rfl (ab_fo q p1_o_p1_Hm_82 (by decide)) rfl ?_
  refine go_iconst (v := 1) rfl (by decide) ?_
  refine go_b2 (v := (-1)) rfl rfl (fun _ => rfl) (by decide) ?_
  refine go_i2l (v := (-1)) rfl (by decide) ?_
  refine go_cc rfl rfl rfl (lv0 := [(0, .long (Int32.toInt64 e)), (2, .long 0), (4, .long (-1))]) rfl ?_
  refine go_s (pc' := 1) (lv' := [(0, .long (Int32.toInt64 e)), (2, .long 0), (4, .long (-1))]) (st' := [.long (Int32.toInt64 e)]) rfl rfl rfl ?_
  refine go_s (pc' := 2) (lv' := [(0, .long (Int32.toInt64 e)), (2, .long 0), (4, .long (-1))]) (st' := [.long 0, .long (Int32.toInt64 e)]) rfl rfl rfl ?_
  refine go_lc (v := lg_cmp (Int32.toInt64 e) 0) rfl rfl ?_
  refine go_ifl (tgt := 17) rfl (by decide) (fun c => ?_) (fun c => ?_)
  ·
    have c1 : e.toInt < 0 := by first | exact c | (rw [Int32.toInt_toInt64] at c; exact c) | (rw [Int32.toInt_toInt64, Int32.toInt_toInt64] at c; exact c)
    refine go_iconst (v := 0) rfl (by decide) ?_
    refine go_rz rfl rfl (by decide) ?_
    show ab_go 998 ab_M_X10_isEvent 13 [(0, .ref 82), (1, .int e)] [.int 0] g _
    refine go_rz rfl rfl (by decide) ?_
    show ab_go 999 ab_M_X10_event 5 [(0, .ref 82), (1, .int e), (2, .int what)] [.int 0] g _
    refine go_iff rfl (by decide) ?_
    refine go_iconst (v := (-1)) rfl (by decide) ?_
    refine go_ri rfl rfl ?_
    exact ⟨rfl, x0⟩
  ·
    have c2 : ¬ e.toInt < 0 := by first | exact c | (rw [Int32.toInt_toInt64] at c; exact c) | (rw [Int32.toInt_toInt64, Int32.toInt_toInt64] at c; exact c)
    refine go_s (pc' := 7) (lv' := [(0, .long (Int32.toInt64 e)), (2, .long 0), (4, .long (-1))]) (st' := [.long (Int32.toInt64 e)]) rfl rfl rfl ?_
    refine go_s (pc' := 9) (lv' := [(0, .long (Int32.toInt64 e)), (2, .long 0), (4, .long (-1))]) (st' := [.long (-1), .long (Int32.toInt64 e)]) rfl rfl rfl ?_
    refine go_lc (v := lg_cmp (Int32.toInt64 e) (-1)) rfl rfl ?_
    refine go_ifl (tgt := 17) rfl (by decide) (fun c => ?_) (fun c => ?_)
    ·
      have c3 : (-1) < e.toInt := by first | exact c | (rw [Int32.toInt_toInt64] at c; exact c) | (rw [Int32.toInt_toInt64, Int32.toInt_toInt64] at c; exact c)
      refine go_iconst (v := 0) rfl (by decide) ?_
      refine go_rz rfl rfl (by decide) ?_
      show ab_go 998 ab_M_X10_isEvent 13 [(0, .ref 82), (1, .int e)] [.int 0] g _
      refine go_rz rfl rfl (by decide) ?_
      show ab_go 999 ab_M_X10_event 5 [(0, .ref 82), (1, .int e), (2, .int what)] [.int 0] g _
      refine go_iff rfl (by decide) ?_
      refine go_iconst (v := (-1)) rfl (by decide) ?_
      refine go_ri rfl rfl ?_
      exact ⟨rfl, x0⟩
    ·
      have c4 : ¬ (-1) < e.toInt := by first | exact c | (rw [Int32.toInt_toInt64] at c; exact c) | (rw [Int32.toInt_toInt64, Int32.toInt_toInt64] at c; exact c)
      exfalso; omega
set_option maxHeartbeats 16000000 in
set_option maxRecDepth 20000 in
theorem m_place {g : ab_H} (q : ab_sim p1_Sm p1_Hm g) (k : Int32) (what : Int32) : ab_go 999 ab_M_X10_place 0 [(0, .ref 82), (1, .int k), (2, .int what)] [] g (fun r g' => r = some (.int (-1)) ∧ p1_Y g g') := by
  have hz : g.1 = 120 := q.1.symm
  have x0 : p1_Y g g := ⟨q.1.symm, q.2.1.symm, rfl⟩
  refine go_s (pc' := 1) (lv' := [(0, .ref 82), (1, .int k), (2, .int what)]) (st' := [.int k]) rfl rfl rfl ?_
  refine go_i2l (v := Int32.toInt64 k) rfl rfl ?_
  refine go_lconst (v := 0) rfl (by decide) ?_
  refine go_s (pc' := 4) (lv' := [(0, .ref 82), (1, .int k), (2, .int what)]) (st' := [.ref 82, .long 0, .long (Int32.toInt64 k)]) rfl rfl rfl ?_
  refine go_get (v := .int 0) rfl (ab_fo q p1_o_p1_Hm_82 (by decide)) rfl ?_
  refine go_iconst (v := 1) rfl (by decide) ?_
  refine go_b2 (v := (-1)) rfl rfl (fun _ => rfl) (by decide) ?_
  refine go_i2l (v := (-1)) rfl (by decide) ?_
  refine go_cc rfl rfl rfl (lv0 := [(0, .long (Int32.toInt64 k)), (2, .long 0), (4, .long (-1))]) rfl ?_
  refine go_s (pc' := 1) (lv' := [(0, .long (Int32.toInt64 k)), (2, .long 0), (4, .long (-1))]) (st' := [.long (Int32.toInt64 k)]) rfl rfl rfl ?_
  refine go_s (pc' := 2) (lv' := [(0, .long (Int32.toInt64 k)), (2, .long 0), (4, .long (-1))]) (st' := [.long 0, .long (Int32.toInt64 k)]) rfl rfl rfl ?_
  refine go_lc (v := lg_cmp (Int32.toInt64 k) 0) rfl rfl ?_
  refine go_ifl (tgt := 17) rfl (by decide) (fun c => ?_) (fun c => ?_)
  ·
    have c1 : k.toInt < 0 := by first | exact c | (rw [Int32.toInt_toInt64] at c; exact c) | (rw [Int32.toInt_toInt64, Int32.toInt_toInt64] at c; exact c)
    refine go_iconst (v := 0) rfl (by decide) ?_
    refine go_rz rfl rfl (by decide) ?_
    show ab_go 999 ab_M_X10_place 13 [(0, .ref 82), (1, .int k), (2, .int what)] [.int 0] g _
    refine go_iff rfl (by decide) ?_
    refine go_iconst (v := (-1)) rfl (by decide) ?_
    refine go_ri rfl rfl ?_
    exact ⟨rfl, x0⟩
  ·
    have c2 : ¬ k.toInt < 0 := by first | exact c | (rw [Int32.toInt_toInt64] at c; exact c) | (rw [Int32.toInt_toInt64, Int32.toInt_toInt64] at c; exact c)
    refine go_s (pc' := 7) (lv' := [(0, .long (Int32.toInt64 k)), (2, .long 0), (4, .long (-1))]) (st' := [.long (Int32.toInt64 k)]) rfl rfl rfl ?_
    refine go_s (pc' := 9) (lv' := [(0, .long (Int32.toInt64 k)), (2, .long 0), (4, .long (-1))]) (st' := [.long (-1), .long (Int32.toInt64 k)]) rfl rfl rfl ?_
    refine go_lc (v := lg_cmp (Int32.toInt64 k) (-1)) rfl rfl ?_
    refine go_ifl (tgt := 17) rfl (by decide) (fun c => ?_) (fun c => ?_)
    ·
      have c3 : (-1) < k.toInt := by first | exact c | (rw [Int32.toInt_toInt64] at c; exact c) | (rw [Int32.toInt_toInt64, Int32.toInt_toInt64] at c; exact c)
      refine go_iconst (v := 0) rfl (by decide) ?_
      refine go_rz rfl rfl (by decide) ?_
      show ab_go 999 ab_M_X10_place 13 [(0, .ref 82), (1, .int k), (2, .int what)] [.int 0] g _
      refine go_iff rfl (by decide) ?_
      refine go_iconst (v := (-1)) rfl (by decide) ?_
      refine go_ri rfl rfl ?_
      exact ⟨rfl, x0⟩
    ·
      have c4 : ¬ (-1) < k.toInt := by first | exact c | (rw [Int32.toInt_toInt64] at c; exact c) | (rw [Int32.toInt_toInt64, Int32.toInt_toInt64] at c; exact c)
      exfalso; omega
set_option maxHeartbeats 16000000 in
set_option maxRecDepth 20000 in
theorem m_states {g : ab_H} (q : ab_sim p1_Sm p1_Hm g) : ab_go 999 ab_M_X10_states 0 [(0, .ref 82)] [] g (fun r g' => r = some (.int 1) ∧ p1_Y g g') := by
  have x0 : p1_Y g g := ⟨q.1.symm, q.2.1.symm, rfl⟩
  obtain ⟨n, r, hF, hx, hr, z, w0, q1, f0⟩ := go_sim p1_R24 q
  exact ⟨n, r, hF, hx, hr, x0.next f0 z w0⟩
set_option maxHeartbeats 16000000 in
set_option maxRecDepth 20000 in
theorem m_right {g : ab_H} (q : ab_sim p1_Sm p1_Hm g) : ab_go 999 ab_M_X10_right 0 [(0, .ref 82)] [] g (fun r g' => r = some (.int 1) ∧ p1_Y g g') := by
  have x0 : p1_Y g g := ⟨q.1.symm, q.2.1.symm, rfl⟩
  obtain ⟨n, r, hF, hx, hr, z, w0, q1, f0⟩ := go_sim p1_R25 q
  exact ⟨n, r, hF, hx, hr, x0.next f0 z w0⟩
set_option maxHeartbeats 16000000 in
set_option maxRecDepth 20000 in
theorem m_of {g : ab_H} (q : ab_sim p1_Sm p1_Hm g) (s : Int32) (w : Int32) : ab_go 999 ab_M_X10_of 0 [(0, .ref 82), (1, .int s), (2, .int w)] [] g (fun r g' => r = some (.int (an_of s w)) ∧ p1_Y g g') := by
  have hz : g.1 = 120 := q.1.symm
  have x0 : p1_Y g g := ⟨q.1.symm, q.2.1.symm, rfl⟩
  refine go_s (pc' := 1) (lv' := [(0, .ref 82), (1, .int s), (2, .int w)]) (st' := [.ref 82]) rfl rfl rfl ?_
  refine go_c rfl rfl (ab_cal_v (As := []) (rest := []) rfl rfl rfl (ab_fo q p1_o_p1_Hm_82 (by decide)) rfl rfl rfl rfl) (lv0 := [(0, .ref 82)]) rfl (go_sim p1_R26 q) (fun r0 g1 hr => ?_)
  obtain ⟨rfl, z4, w0, q2, f0⟩ := hr
  have x3 := x0.next f0 z4 w0
  show ab_go 999 ab_M_X10_of 4 [(0, .ref 82), (1, .int s), (2, .int w)] [.int 1] g1 _
  refine go_s (pc' := 5) (lv' := [(0, .ref 82), (1, .int s), (2, .int w)]) (st' := []) rfl rfl rfl ?_
  refine go_s (pc' := 6) (lv' := [(0, .ref 82), (1, .int s), (2, .int w)]) (st' := [.ref 82]) rfl rfl rfl ?_
  refine go_get (v := .int 1) rfl (ab_fo q2 p1_o_p1_C26_82 (by decide)) rfl ?_
  refine go_iconst (v := 1) rfl (by decide) ?_
  refine go_icf rfl (by decide) ?_
  refine go_s (pc' := 14) (lv' := [(0, .ref 82), (1, .int s), (2, .int w)]) (st' := [.int s]) rfl rfl rfl ?_
  refine go_i2l (v := Int32.toInt64 s) rfl rfl ?_
  refine go_lconst (v := 0) rfl (by decide) ?_
  refine go_s (pc' := 17) (lv' := [(0, .ref 82), (1, .int s), (2, .int w)]) (st' := [.ref 82, .long 0, .long (Int32.toInt64 s)]) rfl rfl rfl ?_
  refine go_get (v := .int 1) rfl (ab_fo q2 p1_o_p1_C26_82 (by decide)) rfl ?_
  refine go_iconst (v := 1) rfl (by decide) ?_
  refine go_b2 (v := 0) rfl rfl (fun _ => rfl) (by decide) ?_
  refine go_i2l (v := 0) rfl (by decide) ?_
  refine go_cc rfl rfl rfl (lv0 := [(0, .long (Int32.toInt64 s)), (2, .long 0), (4, .long 0)]) rfl ?_
  refine go_s (pc' := 1) (lv' := [(0, .long (Int32.toInt64 s)), (2, .long 0), (4, .long 0)]) (st' := [.long (Int32.toInt64 s)]) rfl rfl rfl ?_
  refine go_s (pc' := 2) (lv' := [(0, .long (Int32.toInt64 s)), (2, .long 0), (4, .long 0)]) (st' := [.long 0, .long (Int32.toInt64 s)]) rfl rfl rfl ?_
  refine go_lc (v := lg_cmp (Int32.toInt64 s) 0) rfl rfl ?_
  refine go_ifl (tgt := 17) rfl (by decide) (fun c => ?_) (fun c => ?_)
  ·
    have c5 : s.toInt < 0 := by first | exact c | (rw [Int32.toInt_toInt64] at c; exact c) | (rw [Int32.toInt_toInt64, Int32.toInt_toInt64] at c; exact c)
    refine go_iconst (v := 0) rfl (by decide) ?_
    refine go_rz rfl rfl (by decide) ?_
    show ab_go 999 ab_M_X10_of 26 [(0, .ref 82), (1, .int s), (2, .int w)] [.int 0] g1 _
    refine go_ift (tgt := 60) rfl (by decide) (by decide) ?_
    refine go_iconst (v := (-1)) rfl (by decide) ?_
    refine go_ri rfl rfl ?_
    exact ⟨(by unfold an_of; first | (rw [if_pos (by omega)]; done) | (rw [if_neg (by omega)]; done) | (rw [if_neg (by omega), if_pos (by omega)]; done) | (rw [if_neg (by omega), if_neg (by omega)]; done) | (rw [if_pos (by omega), if_pos (by omega)]; done) | (rw [if_pos (by omega), if_neg (by omega)]; done) | decide | (simp; omega)), x3⟩
  ·
    have c6 : ¬ s.toInt < 0 := by first | exact c | (rw [Int32.toInt_toInt64] at c; exact c) | (rw [Int32.toInt_toInt64, Int32.toInt_toInt64] at c; exact c)
    refine go_s (pc' := 7) (lv' := [(0, .long (Int32.toInt64 s)), (2, .long 0), (4, .long 0)]) (st' := [.long (Int32.toInt64 s)]) rfl rfl rfl ?_
    refine go_s (pc' := 9) (lv' := [(0, .long (Int32.toInt64 s)), (2, .long 0), (4, .long 0)]) (st' := [.long 0, .long (Int32.toInt64 s)]) rfl rfl rfl ?_
    refine go_lc (v := lg_cmp (Int32.toInt64 s) 0) rfl rfl ?_
    refine go_ifl (tgt := 17) rfl (by decide) (fun c => ?_) (fun c => ?_)
    ·
      have c7 : 0 < s.toInt := by first | exact c | (rw [Int32.toInt_toInt64] at c; exact c) | (rw [Int32.toInt_toInt64, Int32.toInt_toInt64] at c; exact c)
      refine go_iconst (v := 0) rfl (by decide) ?_
      refine go_rz rfl rfl (by decide) ?_
      show ab_go 999 ab_M_X10_of 26 [(0, .ref 82), (1, .int s), (2, .int w)] [.int 0] g1 _
      refine go_ift (tgt := 60) rfl (by decide) (by decide) ?_
      refine go_iconst (v := (-1)) rfl (by decide) ?_
      refine go_ri rfl rfl ?_
      exact ⟨(by unfold an_of; first | (rw [if_pos (by omega)]; done) | (rw [if_neg (by omega)]; done) | (rw [if_neg (by omega), if_pos (by omega)]; done) | (rw [if_neg (by omega), if_neg (by omega)]; done) | (rw [if_pos (by omega), if_pos (by omega)]; done) | (rw [if_pos (by omega), if_neg (by omega)]; done) | decide | (simp; omega)), x3⟩
    ·
      have c8 : ¬ 0 < s.toInt := by first | exact c | (rw [Int32.toInt_toInt64] at c; exact c) | (rw [Int32.toInt_toInt64, Int32.toInt_toInt64] at c; exact c)
      refine go_iconst (v := 1) rfl (by decide) ?_
      refine go_goto (tgt := 18) rfl (by decide) ?_
      refine go_rz rfl rfl (by decide) ?_
      show ab_go 999 ab_M_X10_of 26 [(0, .ref 82), (1, .int s), (2, .int w)] [.int 1] g1 _
      refine go_iff rfl (by decide) ?_
      refine go_s (pc' := 30) (lv' := [(0, .ref 82), (1, .int s), (2, .int w)]) (st' := [.int w]) rfl rfl rfl ?_
      refine go_i2l (v := Int32.toInt64 w) rfl rfl ?_
      refine go_lconst (v := 0) rfl (by decide) ?_
      refine go_ldc2 (v := 4) rfl (by decide) ?_
      refine go_cc rfl rfl rfl (lv0 := [(0, .long (Int32.toInt64 w)), (2, .long 0), (4, .long 4)]) rfl ?_
      refine go_s (pc' := 1) (lv' := [(0, .long (Int32.toInt64 w)), (2, .long 0), (4, .long 4)]) (st' := [.long (Int32.toInt64 w)]) rfl rfl rfl ?_
      refine go_s (pc' := 2) (lv' := [(0, .long (Int32.toInt64 w)), (2, .long 0), (4, .long 4)]) (st' := [.long 0, .long (Int32.toInt64 w)]) rfl rfl rfl ?_
      refine go_lc (v := lg_cmp (Int32.toInt64 w) 0) rfl rfl ?_
      refine go_ifl (tgt := 17) rfl (by decide) (fun c => ?_) (fun c => ?_)
      ·
        have c9 : w.toInt < 0 := by first | exact c | (rw [Int32.toInt_toInt64] at c; exact c) | (rw [Int32.toInt_toInt64, Int32.toInt_toInt64] at c; exact c)
        refine go_iconst (v := 0) rfl (by decide) ?_
        refine go_rz rfl rfl (by decide) ?_
        show ab_go 999 ab_M_X10_of 38 [(0, .ref 82), (1, .int s), (2, .int w)] [.int 0] g1 _
        refine go_iff rfl (by decide) ?_
        refine go_s (pc' := 42) (lv' := [(0, .ref 82), (1, .int s), (2, .int w)]) (st' := [.int w]) rfl rfl rfl ?_
        refine go_i2l (v := Int32.toInt64 w) rfl rfl ?_
        refine go_ldc2 (v := 10) rfl (by decide) ?_
        refine go_bipush (v := 9) rfl (by decide) ?_
        refine go_s (pc' := 49) (lv' := [(0, .ref 82), (1, .int s), (2, .int w)]) (st' := [.ref 82, .int 9, .long 10, .long (Int32.toInt64 w)]) rfl rfl rfl ?_
        refine go_get (v := .int 0) rfl (ab_fo q2 p1_o_p1_C26_82 (by decide)) rfl ?_
        refine go_b2 (v := 9) rfl rfl (fun _ => rfl) (by decide) ?_
        refine go_i2l (v := 9) rfl (by decide) ?_
        refine go_cc rfl rfl rfl (lv0 := [(0, .long (Int32.toInt64 w)), (2, .long 10), (4, .long 9)]) rfl ?_
        refine go_s (pc' := 1) (lv' := [(0, .long (Int32.toInt64 w)), (2, .long 10), (4, .long 9)]) (st' := [.long (Int32.toInt64 w)]) rfl rfl rfl ?_
        refine go_s (pc' := 2) (lv' := [(0, .long (Int32.toInt64 w)), (2, .long 10), (4, .long 9)]) (st' := [.long 10, .long (Int32.toInt64 w)]) rfl rfl rfl ?_
        refine go_lc (v := lg_cmp (Int32.toInt64 w) 10) rfl rfl ?_
        refine go_ifl (tgt := 17) rfl (by decide) (fun c => ?_) (fun c => ?_)
        ·
          have c10 : w.toInt < 10 := by first | exact c | (rw [Int32.toInt_toInt64] at c; exact c) | (rw [Int32.toInt_toInt64, Int32.toInt_toInt64] at c; exact c)
          refine go_iconst (v := 0) rfl (by decide) ?_
          refine go_rz rfl rfl (by decide) ?_
          show ab_go 999 ab_M_X10_of 57 [(0, .ref 82), (1, .int s), (2, .int w)] [.int 0] g1 _
          refine go_iff rfl (by decide) ?_
          refine go_iconst (v := (-1)) rfl (by decide) ?_
          refine go_ri rfl rfl ?_
          exact ⟨(by unfold an_of; first | (rw [if_pos (by omega)]; done) | (rw [if_neg (by omega)]; done) | (rw [if_neg (by omega), if_pos (by omega)]; done) | (rw [if_neg (by omega), if_neg (by omega)]; done) | (rw [if_pos (by omega), if_pos (by omega)]; done) | (rw [if_pos (by omega), if_neg (by omega)]; done) | decide | (simp; omega)), x3⟩
        ·
          have c11 : ¬ w.toInt < 10 := by first | exact c | (rw [Int32.toInt_toInt64] at c; exact c) | (rw [Int32.toInt_toInt64, Int32.toInt_toInt64] at c; exact c)
          exfalso; omega
      ·
        have c12 : ¬ w.toInt < 0 := by first | exact c | (rw [Int32.toInt_toInt64] at c; exact c) | (rw [Int32.toInt_toInt64, Int32.toInt_toInt64] at c; exact c)
        refine go_s (pc' := 7) (lv' := [(0, .long (Int32.toInt64 w)), (2, .long 0), (4, .long 4)]) (st' := [.long (Int32.toInt64 w)]) rfl rfl rfl ?_
        refine go_s (pc' := 9) (lv' := [(0, .long (Int32.toInt64 w)), (2, .long 0), (4, .long 4)]) (st' := [.long 4, .long (Int32.toInt64 w)]) rfl rfl rfl ?_
        refine go_lc (v := lg_cmp (Int32.toInt64 w) 4) rfl rfl ?_
        refine go_ifl (tgt := 17) rfl (by decide) (fun c => ?_) (fun c => ?_)
        ·
          have c13 : 4 < w.toInt := by first | exact c | (rw [Int32.toInt_toInt64] at c; exact c) | (rw [Int32.toInt_toInt64, Int32.toInt_toInt64] at c; exact c)
          refine go_iconst (v := 0) rfl (by decide) ?_
          refine go_rz rfl rfl (by decide) ?_
          show ab_go 999 ab_M_X10_of 38 [(0, .ref 82), (1, .int s), (2, .int w)] [.int 0] g1 _
          refine go_iff rfl (by decide) ?_
          refine go_s (pc' := 42) (lv' := [(0, .ref 82), (1, .int s), (2, .int w)]) (st' := [.int w]) rfl rfl rfl ?_
          refine go_i2l (v := Int32.toInt64 w) rfl rfl ?_
          refine go_ldc2 (v := 10) rfl (by decide) ?_
          refine go_bipush (v := 9) rfl (by decide) ?_
          refine go_s (pc' := 49) (lv' := [(0, .ref 82), (1, .int s), (2, .int w)]) (st' := [.ref 82, .int 9, .long 10, .long (Int32.toInt64 w)]) rfl rfl rfl ?_
          refine go_get (v := .int 0) rfl (ab_fo q2 p1_o_p1_C26_82 (by decide)) rfl ?_
          refine go_b2 (v := 9) rfl rfl (fun _ => rfl) (by decide) ?_
          refine go_i2l (v := 9) rfl (by decide) ?_
          refine go_cc rfl rfl rfl (lv0 := [(0, .long (Int32.toInt64 w)), (2, .long 10), (4, .long 9)]) rfl ?_
          refine go_s (pc' := 1) (lv' := [(0, .long (Int32.toInt64 w)), (2, .long 10), (4, .long 9)]) (st' := [.long (Int32.toInt64 w)]) rfl rfl rfl ?_
          refine go_s (pc' := 2) (lv' := [(0, .long (Int32.toInt64 w)), (2, .long 10), (4, .long 9)]) (st' := [.long 10, .long (Int32.toInt64 w)]) rfl rfl rfl ?_
          refine go_lc (v := lg_cmp (Int32.toInt64 w) 10) rfl rfl ?_
          refine go_ifl (tgt := 17) rfl (by decide) (fun c => ?_) (fun c => ?_)
          ·
            have c14 : w.toInt < 10 := by first | exact c | (rw [Int32.toInt_toInt64] at c; exact c) | (rw [Int32.toInt_toInt64, Int32.toInt_toInt64] at c; exact c)
            refine go_iconst (v := 0) rfl (by decide) ?_
            refine go_rz rfl rfl (by decide) ?_
            show ab_go 999 ab_M_X10_of 57 [(0, .ref 82), (1, .int s), (2, .int w)] [.int 0] g1 _
            refine go_iff rfl (by decide) ?_
            refine go_iconst (v := (-1)) rfl (by decide) ?_
            refine go_ri rfl rfl ?_
            exact ⟨(by unfold an_of; first | (rw [if_pos (by omega)]; done) | (rw [if_neg (by omega)]; done) | (rw [if_neg (by omega), if_pos (by omega)]; done) | (rw [if_neg (by omega), if_neg (by omega)]; done) | (rw [if_pos (by omega), if_pos (by omega)]; done) | (rw [if_pos (by omega), if_neg (by omega)]; done) | decide | (simp; omega)), x3⟩
          ·
            have c15 : ¬ w.toInt < 10 := by first | exact c | (rw [Int32.toInt_toInt64] at c; exact c) | (rw [Int32.toInt_toInt64, Int32.toInt_toInt64] at c; exact c)
            refine go_s (pc' := 7) (lv' := [(0, .long (Int32.toInt64 w)), (2, .long 10), (4, .long 9)]) (st' := [.long (Int32.toInt64 w)]) rfl rfl rfl ?_
            refine go_s (pc' := 9) (lv' := [(0, .long (Int32.toInt64 w)), (2, .long 10), (4, .long 9)]) (st' := [.long 9, .long (Int32.toInt64 w)]) rfl rfl rfl ?_
            refine go_lc (v := lg_cmp (Int32.toInt64 w) 9) rfl rfl ?_
            refine go_ifl (tgt := 17) rfl (by decide) (fun c => ?_) (fun c => ?_)
            ·
              have c16 : 9 < w.toInt := by first | exact c | (rw [Int32.toInt_toInt64] at c; exact c) | (rw [Int32.toInt_toInt64, Int32.toInt_toInt64] at c; exact c)
              refine go_iconst (v := 0) rfl (by decide) ?_
              refine go_rz rfl rfl (by decide) ?_
              show ab_go 999 ab_M_X10_of 57 [(0, .ref 82), (1, .int s), (2, .int w)] [.int 0] g1 _
              refine go_iff rfl (by decide) ?_
              refine go_iconst (v := (-1)) rfl (by decide) ?_
              refine go_ri rfl rfl ?_
              exact ⟨(by unfold an_of; first | (rw [if_pos (by omega)]; done) | (rw [if_neg (by omega)]; done) | (rw [if_neg (by omega), if_pos (by omega)]; done) | (rw [if_neg (by omega), if_neg (by omega)]; done) | (rw [if_pos (by omega), if_pos (by omega)]; done) | (rw [if_pos (by omega), if_neg (by omega)]; done) | decide | (simp; omega)), x3⟩
            ·
              have c17 : ¬ 9 < w.toInt := by first | exact c | (rw [Int32.toInt_toInt64] at c; exact c) | (rw [Int32.toInt_toInt64, Int32.toInt_toInt64] at c; exact c)
              exfalso; omega
        ·
          have c18 : ¬ 4 < w.toInt := by first | exact c | (rw [Int32.toInt_toInt64] at c; exact c) | (rw [Int32.toInt_toInt64, Int32.toInt_toInt64] at c; exact c)
          refine go_iconst (v := 1) rfl (by decide) ?_
          refine go_goto (tgt := 18) rfl (by decide) ?_
          refine go_rz rfl rfl (by decide) ?_
          show ab_go 999 ab_M_X10_of 38 [(0, .ref 82), (1, .int s), (2, .int w)] [.int 1] g1 _
          refine go_ift (tgt := 62) rfl (by decide) (by decide) ?_
          refine go_s (pc' := 63) (lv' := [(0, .ref 82), (1, .int s), (2, .int w)]) (st' := [.int w]) rfl rfl rfl ?_
          refine go_i2l (v := Int32.toInt64 w) rfl rfl ?_
          refine go_ldc2 (v := 2) rfl (by decide) ?_
          refine go_ldc2 (v := 4) rfl (by decide) ?_
          refine go_cc rfl rfl rfl (lv0 := [(0, .long (Int32.toInt64 w)), (2, .long 2), (4, .long 4)]) rfl ?_
          refine go_s (pc' := 1) (lv' := [(0, .long (Int32.toInt64 w)), (2, .long 2), (4, .long 4)]) (st' := [.long (Int32.toInt64 w)]) rfl rfl rfl ?_
          refine go_s (pc' := 2) (lv' := [(0, .long (Int32.toInt64 w)), (2, .long 2), (4, .long 4)]) (st' := [.long 2, .long (Int32.toInt64 w)]) rfl rfl rfl ?_
          refine go_lc (v := lg_cmp (Int32.toInt64 w) 2) rfl rfl ?_
          refine go_ifl (tgt := 17) rfl (by decide) (fun c => ?_) (fun c => ?_)
          ·
            have c19 : w.toInt < 2 := by first | exact c | (rw [Int32.toInt_toInt64] at c; exact c) | (rw [Int32.toInt_toInt64, Int32.toInt_toInt64] at c; exact c)
            refine go_iconst (v := 0) rfl (by decide) ?_
            refine go_rz rfl rfl (by decide) ?_
            show ab_go 999 ab_M_X10_of 73 [(0, .ref 82), (1, .int s), (2, .int w)] [.int 0] g1 _
            refine go_ift (tgt := 86) rfl (by decide) (by decide) ?_
            refine go_s (pc' := 87) (lv' := [(0, .ref 82), (1, .int s), (2, .int w)]) (st' := [.int w]) rfl rfl rfl ?_
            refine go_if (tgt := 99) rfl (by decide) (fun c => ?_) (fun c => ?_)
            ·
              have c20 : ¬ w.toInt = 0 := c
              refine go_s (pc' := 100) (lv' := [(0, .ref 82), (1, .int s), (2, .int w)]) (st' := [.int w]) rfl rfl rfl ?_
              refine go_iconst (v := 1) rfl (by decide) ?_
              refine go_ic (tgt := 112) rfl (by decide) (fun c => ?_) (fun c => ?_)
              ·
                have c21 : ¬ w.toInt = 1 := c
                exfalso; omega
              ·
                have c22 : ¬ (¬ w.toInt = 1) := c
                refine go_s (pc' := 105) (lv' := [(0, .ref 82), (1, .int s), (2, .int w)]) (st' := [.ref 82]) rfl rfl rfl ?_
                refine go_s (pc' := 106) (lv' := [(0, .ref 82), (1, .int s), (2, .int w)]) (st' := [.int s, .ref 82]) rfl rfl rfl ?_
                refine go_cc rfl rfl (ab_cal_v (As := [.int s]) (rest := []) rfl rfl rfl (ab_fo q2 p1_o_p1_C26_82 (by decide)) rfl rfl rfl rfl) (lv0 := [(0, .ref 82), (1, .int s)]) rfl ?_
                refine go_iconst (v := 0) rfl (by decide) ?_
                refine go_s (pc' := 2) (lv' := [(2, .int 0), (0, .ref 82), (1, .int s)]) (st' := []) rfl rfl rfl ?_
                refine go_iconst (v := 0) rfl (by decide) ?_
                refine go_s (pc' := 4) (lv' := [(3, .int 0), (2, .int 0), (0, .ref 82), (1, .int s)]) (st' := []) rfl rfl rfl ?_
                refine go_s (pc' := 5) (lv' := [(3, .int 0), (2, .int 0), (0, .ref 82), (1, .int s)]) (st' := [.int 0]) rfl rfl rfl ?_
                refine go_s (pc' := 6) (lv' := [(3, .int 0), (2, .int 0), (0, .ref 82), (1, .int s)]) (st' := [.ref 82, .int 0]) rfl rfl rfl ?_
                refine go_get (v := .int 0) rfl (ab_fo q2 p1_o_p1_C26_82 (by decide)) rfl ?_
                refine go_ict (tgt := 44) rfl (by decide) (by decide) ?_
                refine go_s (pc' := 45) (lv' := [(3, .int 0), (2, .int 0), (0, .ref 82), (1, .int s)]) (st' := [.int 0]) rfl rfl rfl ?_
                refine go_ri rfl rfl ?_
                show ab_go 999 ab_M_X10_of 109 [(0, .ref 82), (1, .int s), (2, .int w)] [.int 0] g1 _
                refine go_goto (tgt := 166) rfl (by decide) ?_
                refine go_ri rfl rfl ?_
                exact ⟨(by unfold an_of; first | (rw [if_pos (by omega)]; done) | (rw [if_neg (by omega)]; done) | (rw [if_neg (by omega), if_pos (by omega)]; done) | (rw [if_neg (by omega), if_neg (by omega)]; done) | (rw [if_pos (by omega), if_pos (by omega)]; done) | (rw [if_pos (by omega), if_neg (by omega)]; done) | decide | (simp; omega)), x3⟩
            ·
              have c23 : ¬ (¬ w.toInt = 0) := c
              refine go_s (pc' := 91) (lv' := [(0, .ref 82), (1, .int s), (2, .int w)]) (st' := [.ref 82]) rfl rfl rfl ?_
              refine go_get (v := .ref 99) rfl (ab_fo q2 p1_o_p1_C26_82 (by decide)) rfl ?_
              refine go_s (pc' := 95) (lv' := [(0, .ref 82), (1, .int s), (2, .int w)]) (st' := [.int s, .ref 99]) rfl rfl rfl ?_
              obtain rfl : s = 0 := ab_i0 0 (by have e : (0 : Int32).toInt = 0 := rfl; omega)
              obtain ⟨f24, h25, vh25⟩ := ab_fa q2 p1_a_p1_C26_99_0
              refine go_ial (v := 0) rfl h25 (by decide) vh25 ?_
              refine go_goto (tgt := 166) rfl (by decide) ?_
              refine go_ri rfl rfl ?_
              exact ⟨(by unfold an_of; first | (rw [if_pos (by omega)]; done) | (rw [if_neg (by omega)]; done) | (rw [if_neg (by omega), if_pos (by omega)]; done) | (rw [if_neg (by omega), if_neg (by omega)]; done) | (rw [if_pos (by omega), if_pos (by omega)]; done) | (rw [if_pos (by omega), if_neg (by omega)]; done) | decide | (simp; omega)), x3⟩
          ·
            have c26 : ¬ w.toInt < 2 := by first | exact c | (rw [Int32.toInt_toInt64] at c; exact c) | (rw [Int32.toInt_toInt64, Int32.toInt_toInt64] at c; exact c)
            refine go_s (pc' := 7) (lv' := [(0, .long (Int32.toInt64 w)), (2, .long 2), (4, .long 4)]) (st' := [.long (Int32.toInt64 w)]) rfl rfl rfl ?_
            refine go_s (pc' := 9) (lv' := [(0, .long (Int32.toInt64 w)), (2, .long 2), (4, .long 4)]) (st' := [.long 4, .long (Int32.toInt64 w)]) rfl rfl rfl ?_
            refine go_lc (v := lg_cmp (Int32.toInt64 w) 4) rfl rfl ?_
            refine go_ifl (tgt := 17) rfl (by decide) (fun c => ?_) (fun c => ?_)
            ·
              have c27 : 4 < w.toInt := by first | exact c | (rw [Int32.toInt_toInt64] at c; exact c) | (rw [Int32.toInt_toInt64, Int32.toInt_toInt64] at c; exact c)
              exfalso; omega
            ·
              have c28 : ¬ 4 < w.toInt := by first | exact c | (rw [Int32.toInt_toInt64] at c; exact c) | (rw [Int32.toInt_toInt64, Int32.toInt_toInt64] at c; exact c)
              refine go_iconst (v := 1) rfl (by decide) ?_
              refine go_goto (tgt := 18) rfl (by decide) ?_
              refine go_rz rfl rfl (by decide) ?_
              show ab_go 999 ab_M_X10_of 73 [(0, .ref 82), (1, .int s), (2, .int w)] [.int 1] g1 _
              refine go_iff rfl (by decide) ?_
              refine go_s (pc' := 77) (lv' := [(0, .ref 82), (1, .int s), (2, .int w)]) (st' := [.ref 82]) rfl rfl rfl ?_
              refine go_get (v := .int 1) rfl (ab_fo q2 p1_o_p1_C26_82 (by decide)) rfl ?_
              refine go_ift (tgt := 86) rfl (by decide) (by decide) ?_
              refine go_s (pc' := 87) (lv' := [(0, .ref 82), (1, .int s), (2, .int w)]) (st' := [.int w]) rfl rfl rfl ?_
              refine go_if (tgt := 99) rfl (by decide) (fun c => ?_) (fun c => ?_)
              ·
                have c29 : ¬ w.toInt = 0 := c
                refine go_s (pc' := 100) (lv' := [(0, .ref 82), (1, .int s), (2, .int w)]) (st' := [.int w]) rfl rfl rfl ?_
                refine go_iconst (v := 1) rfl (by decide) ?_
                refine go_ic (tgt := 112) rfl (by decide) (fun c => ?_) (fun c => ?_)
                ·
                  have c30 : ¬ w.toInt = 1 := c
                  refine go_s (pc' := 113) (lv' := [(0, .ref 82), (1, .int s), (2, .int w)]) (st' := [.int w]) rfl rfl rfl ?_
                  refine go_iconst (v := 2) rfl (by decide) ?_
                  refine go_ic (tgt := 126) rfl (by decide) (fun c => ?_) (fun c => ?_)
                  ·
                    have c31 : ¬ w.toInt = 2 := c
                    refine go_s (pc' := 127) (lv' := [(0, .ref 82), (1, .int s), (2, .int w)]) (st' := [.int w]) rfl rfl rfl ?_
                    refine go_iconst (v := 3) rfl (by decide) ?_
                    refine go_ic (tgt := 139) rfl (by decide) (fun c => ?_) (fun c => ?_)
                    ·
                      have c32 : ¬ w.toInt = 3 := c
                      refine go_s (pc' := 140) (lv' := [(0, .ref 82), (1, .int s), (2, .int w)]) (st' := [.int w]) rfl rfl rfl ?_
                      refine go_iconst (v := 4) rfl (by decide) ?_
                      refine go_ic (tgt := 152) rfl (by decide) (fun c => ?_) (fun c => ?_)
                      ·
                        have c33 : ¬ w.toInt = 4 := c
                        exfalso; omega
                      ·
                        have c34 : ¬ (¬ w.toInt = 4) := c
                        refine go_s (pc' := 145) (lv' := [(0, .ref 82), (1, .int s), (2, .int w)]) (st' := [.ref 82]) rfl rfl rfl ?_
                        refine go_s (pc' := 146) (lv' := [(0, .ref 82), (1, .int s), (2, .int w)]) (st' := [.int s, .ref 82]) rfl rfl rfl ?_
                        refine go_cc rfl rfl (ab_cal_v (As := [.int s]) (rest := []) rfl rfl rfl (ab_fo q2 p1_o_p1_C26_82 (by decide)) rfl rfl rfl rfl) (lv0 := [(0, .ref 82), (1, .int s)]) rfl ?_
                        refine go_s (pc' := 1) (lv' := [(0, .ref 82), (1, .int s)]) (st' := [.ref 82]) rfl rfl rfl ?_
                        refine go_get (v := .ref 101) rfl (ab_fo q2 p1_o_p1_C26_82 (by decide)) rfl ?_
                        refine go_s (pc' := 5) (lv' := [(0, .ref 82), (1, .int s)]) (st' := [.int s, .ref 101]) rfl rfl rfl ?_
                        obtain rfl : s = 0 := ab_i0 0 (by have e : (0 : Int32).toInt = 0 := rfl; omega)
                        obtain ⟨f35, h36, vh36⟩ := ab_fa q2 p1_a_p1_C26_101_0
                        refine go_ial (v := 0) rfl h36 (by decide) vh36 ?_
                        refine go_s (pc' := 7) (lv' := [(0, .ref 82), (1, .int 0)]) (st' := [.ref 82, .int 0]) rfl rfl rfl ?_
                        refine go_s (pc' := 8) (lv' := [(0, .ref 82), (1, .int 0)]) (st' := [.int 0, .ref 82, .int 0]) rfl rfl rfl ?_
                        refine go_c rfl rfl (ab_cal_v (As := [.int 0]) (rest := [.int 0]) rfl rfl rfl (ab_fo q2 p1_o_p1_C26_82 (by decide)) rfl rfl rfl rfl) (lv0 := [(0, .ref 82), (1, .int 0)]) rfl (go_sim p1_R27 q2) (fun r0 g37 hr => ?_)
                        obtain ⟨rfl, z40, w0, q38, f0⟩ := hr
                        have x39 := x3.next f0 z40 w0
                        show ab_go 998 ab_M_X10_aims 11 [(0, .ref 82), (1, .int 0)] [.int 0, .int 0] g37 _
                        refine go_b2 (v := 0) rfl rfl (fun _ => rfl) (by decide) ?_
                        refine go_ri rfl rfl ?_
                        show ab_go 999 ab_M_X10_of 149 [(0, .ref 82), (1, .int 0), (2, .int w)] [.int 0] g37 _
                        refine go_goto (tgt := 166) rfl (by decide) ?_
                        refine go_ri rfl rfl ?_
                        exact ⟨(by unfold an_of; first | (rw [if_pos (by omega)]; done) | (rw [if_neg (by omega)]; done) | (rw [if_neg (by omega), if_pos (by omega)]; done) | (rw [if_neg (by omega), if_neg (by omega)]; done) | (rw [if_pos (by omega), if_pos (by omega)]; done) | (rw [if_pos (by omega), if_neg (by omega)]; done) | decide | (simp; omega)), x39⟩
                    ·
                      have c41 : ¬ (¬ w.toInt = 3) := c
                      refine go_s (pc' := 132) (lv' := [(0, .ref 82), (1, .int s), (2, .int w)]) (st' := [.ref 82]) rfl rfl rfl ?_
                      refine go_s (pc' := 133) (lv' := [(0, .ref 82), (1, .int s), (2, .int w)]) (st' := [.int s, .ref 82]) rfl rfl rfl ?_
                      refine go_cc rfl rfl (ab_cal_v (As := [.int s]) (rest := []) rfl rfl rfl (ab_fo q2 p1_o_p1_C26_82 (by decide)) rfl rfl rfl rfl) (lv0 := [(0, .ref 82), (1, .int s)]) rfl ?_
                      refine go_iconst (v := 0) rfl (by decide) ?_
                      refine go_s (pc' := 2) (lv' := [(2, .int 0), (0, .ref 82), (1, .int s)]) (st' := []) rfl rfl rfl ?_
                      refine go_iconst (v := 0) rfl (by decide) ?_
                      refine go_s (pc' := 4) (lv' := [(3, .int 0), (2, .int 0), (0, .ref 82), (1, .int s)]) (st' := []) rfl rfl rfl ?_
                      refine go_s (pc' := 5) (lv' := [(3, .int 0), (2, .int 0), (0, .ref 82), (1, .int s)]) (st' := [.int 0]) rfl rfl rfl ?_
                      refine go_s (pc' := 6) (lv' := [(3, .int 0), (2, .int 0), (0, .ref 82), (1, .int s)]) (st' := [.ref 82, .int 0]) rfl rfl rfl ?_
                      refine go_get (v := .int 0) rfl (ab_fo q2 p1_o_p1_C26_82 (by decide)) rfl ?_
                      refine go_ict (tgt := 49) rfl (by decide) (by decide) ?_
                      refine go_s (pc' := 50) (lv' := [(3, .int 0), (2, .int 0), (0, .ref 82), (1, .int s)]) (st' := [.int 0]) rfl rfl rfl ?_
                      refine go_ri rfl rfl ?_
                      show ab_go 999 ab_M_X10_of 136 [(0, .ref 82), (1, .int s), (2, .int w)] [.int 0] g1 _
                      refine go_goto (tgt := 166) rfl (by decide) ?_
                      refine go_ri rfl rfl ?_
                      exact ⟨(by unfold an_of; first | (rw [if_pos (by omega)]; done) | (rw [if_neg (by omega)]; done) | (rw [if_neg (by omega), if_pos (by omega)]; done) | (rw [if_neg (by omega), if_neg (by omega)]; done) | (rw [if_pos (by omega), if_pos (by omega)]; done) | (rw [if_pos (by omega), if_neg (by omega)]; done) | decide | (simp; omega)), x3⟩
                  ·
                    have c42 : ¬ (¬ w.toInt = 2) := c
                    refine go_s (pc' := 118) (lv' := [(0, .ref 82), (1, .int s), (2, .int w)]) (st' := [.ref 82]) rfl rfl rfl ?_
                    refine go_get (v := .ref 101) rfl (ab_fo q2 p1_o_p1_C26_82 (by decide)) rfl ?_
                    refine go_s (pc' := 122) (lv' := [(0, .ref 82), (1, .int s), (2, .int w)]) (st' := [.int s, .ref 101]) rfl rfl rfl ?_
                    obtain rfl : s = 0 := ab_i0 0 (by have e : (0 : Int32).toInt = 0 := rfl; omega)
                    obtain ⟨f43, h44, vh44⟩ := ab_fa q2 p1_a_p1_C26_101_0
                    refine go_ial (v := 0) rfl h44 (by decide) vh44 ?_
                    refine go_goto (tgt := 166) rfl (by decide) ?_
                    refine go_ri rfl rfl ?_
                    exact ⟨(by unfold an_of; first | (rw [if_pos (by omega)]; done) | (rw [if_neg (by omega)]; done) | (rw [if_neg (by omega), if_pos (by omega)]; done) | (rw [if_neg (by omega), if_neg (by omega)]; done) | (rw [if_pos (by omega), if_pos (by omega)]; done) | (rw [if_pos (by omega), if_neg (by omega)]; done) | decide | (simp; omega)), x3⟩
                ·
                  have c45 : ¬ (¬ w.toInt = 1) := c
                  exfalso; omega
              ·
                have c46 : ¬ (¬ w.toInt = 0) := c
                exfalso; omega
set_option maxHeartbeats 16000000 in
set_option maxRecDepth 20000 in
theorem m_quarrels {g : ab_H} (q : ab_sim p1_Sm p1_Hm g) (w : Int32) : ab_go 999 ab_M_X10_quarrels 0 [(0, .ref 82), (1, .int w)] [] g (fun r g' => r = some (.int (an_quarrels w)) ∧ p1_Y g g') := by
  have hz : g.1 = 120 := q.1.symm
  have x0 : p1_Y g g := ⟨q.1.symm, q.2.1.symm, rfl⟩
  refine go_s (pc' := 1) (lv' := [(0, .ref 82), (1, .int w)]) (st' := [.int w]) rfl rfl rfl ?_
  refine go_i2l (v := Int32.toInt64 w) rfl rfl ?_
  refine go_lconst (v := 0) rfl (by decide) ?_
  refine go_ldc2 (v := 3) rfl (by decide) ?_
  refine go_cc rfl rfl rfl (lv0 := [(0, .long (Int32.toInt64 w)), (2, .long 0), (4, .long 3)]) rfl ?_
  refine go_s (pc' := 1) (lv' := [(0, .long (Int32.toInt64 w)), (2, .long 0), (4, .long 3)]) (st' := [.long (Int32.toInt64 w)]) rfl rfl rfl ?_
  refine go_s (pc' := 2) (lv' := [(0, .long (Int32.toInt64 w)), (2, .long 0), (4, .long 3)]) (st' := [.long 0, .long (Int32.toInt64 w)]) rfl rfl rfl ?_
  refine go_lc (v := lg_cmp (Int32.toInt64 w) 0) rfl rfl ?_
  refine go_ifl (tgt := 17) rfl (by decide) (fun c => ?_) (fun c => ?_)
  ·
    have c1 : w.toInt < 0 := by first | exact c | (rw [Int32.toInt_toInt64] at c; exact c) | (rw [Int32.toInt_toInt64, Int32.toInt_toInt64] at c; exact c)
    refine go_iconst (v := 0) rfl (by decide) ?_
    refine go_rz rfl rfl (by decide) ?_
    show ab_go 999 ab_M_X10_quarrels 9 [(0, .ref 82), (1, .int w)] [.int 0] g _
    refine go_iff rfl (by decide) ?_
    refine go_iconst (v := (-1)) rfl (by decide) ?_
    refine go_ri rfl rfl ?_
    exact ⟨(by unfold an_quarrels; first | (rw [if_pos (by omega)]; done) | (rw [if_neg (by omega)]; done) | (rw [if_neg (by omega), if_pos (by omega)]; done) | (rw [if_neg (by omega), if_neg (by omega)]; done) | (rw [if_pos (by omega), if_pos (by omega)]; done) | (rw [if_pos (by omega), if_neg (by omega)]; done) | decide | (simp; omega)), x0⟩
  ·
    have c2 : ¬ w.toInt < 0 := by first | exact c | (rw [Int32.toInt_toInt64] at c; exact c) | (rw [Int32.toInt_toInt64, Int32.toInt_toInt64] at c; exact c)
    refine go_s (pc' := 7) (lv' := [(0, .long (Int32.toInt64 w)), (2, .long 0), (4, .long 3)]) (st' := [.long (Int32.toInt64 w)]) rfl rfl rfl ?_
    refine go_s (pc' := 9) (lv' := [(0, .long (Int32.toInt64 w)), (2, .long 0), (4, .long 3)]) (st' := [.long 3, .long (Int32.toInt64 w)]) rfl rfl rfl ?_
    refine go_lc (v := lg_cmp (Int32.toInt64 w) 3) rfl rfl ?_
    refine go_ifl (tgt := 17) rfl (by decide) (fun c => ?_) (fun c => ?_)
    ·
      have c3 : 3 < w.toInt := by first | exact c | (rw [Int32.toInt_toInt64] at c; exact c) | (rw [Int32.toInt_toInt64, Int32.toInt_toInt64] at c; exact c)
      refine go_iconst (v := 0) rfl (by decide) ?_
      refine go_rz rfl rfl (by decide) ?_
      show ab_go 999 ab_M_X10_quarrels 9 [(0, .ref 82), (1, .int w)] [.int 0] g _
      refine go_iff rfl (by decide) ?_
      refine go_iconst (v := (-1)) rfl (by decide) ?_
      refine go_ri rfl rfl ?_
      exact ⟨(by unfold an_quarrels; first | (rw [if_pos (by omega)]; done) | (rw [if_neg (by omega)]; done) | (rw [if_neg (by omega), if_pos (by omega)]; done) | (rw [if_neg (by omega), if_neg (by omega)]; done) | (rw [if_pos (by omega), if_pos (by omega)]; done) | (rw [if_pos (by omega), if_neg (by omega)]; done) | decide | (simp; omega)), x0⟩
    ·
      have c4 : ¬ 3 < w.toInt := by first | exact c | (rw [Int32.toInt_toInt64] at c; exact c) | (rw [Int32.toInt_toInt64, Int32.toInt_toInt64] at c; exact c)
      refine go_iconst (v := 1) rfl (by decide) ?_
      refine go_goto (tgt := 18) rfl (by decide) ?_
      refine go_rz rfl rfl (by decide) ?_
      show ab_go 999 ab_M_X10_quarrels 9 [(0, .ref 82), (1, .int w)] [.int 1] g _
      refine go_ift (tgt := 14) rfl (by decide) (by decide) ?_
      refine go_s (pc' := 15) (lv' := [(0, .ref 82), (1, .int w)]) (st' := [.ref 82]) rfl rfl rfl ?_
      refine go_c rfl rfl (ab_cal_v (As := []) (rest := []) rfl rfl rfl (ab_fo q p1_o_p1_Hm_82 (by decide)) rfl rfl rfl rfl) (lv0 := [(0, .ref 82)]) rfl (go_sim p1_R26 q) (fun r0 g5 hr => ?_)
      obtain ⟨rfl, z8, w0, q6, f0⟩ := hr
      have x7 := x0.next f0 z8 w0
      show ab_go 999 ab_M_X10_quarrels 18 [(0, .ref 82), (1, .int w)] [.int 1] g5 _
      refine go_ift (tgt := 24) rfl (by decide) (by decide) ?_
      refine go_s (pc' := 25) (lv' := [(0, .ref 82), (1, .int w)]) (st' := [.ref 82]) rfl rfl rfl ?_
      refine go_c rfl rfl (ab_cal_v (As := []) (rest := []) rfl rfl rfl (ab_fo q6 p1_o_p1_C26_82 (by decide)) rfl rfl rfl rfl) (lv0 := [(0, .ref 82)]) rfl (go_sim p1_R28 q6) (fun r0 g9 hr => ?_)
      obtain ⟨rfl, z12, w0, q10, f0⟩ := hr
      have x11 := x7.next f0 z12 w0
      show ab_go 999 ab_M_X10_quarrels 28 [(0, .ref 82), (1, .int w)] [] g9 _
      refine go_s (pc' := 29) (lv' := [(0, .ref 82), (1, .int w)]) (st' := [.int w]) rfl rfl rfl ?_
      refine go_if (tgt := 39) rfl (by decide) (fun c => ?_) (fun c => ?_)
      ·
        have c13 : ¬ w.toInt = 0 := c
        refine go_s (pc' := 40) (lv' := [(0, .ref 82), (1, .int w)]) (st' := [.int w]) rfl rfl rfl ?_
        refine go_iconst (v := 1) rfl (by decide) ?_
        refine go_ic (tgt := 51) rfl (by decide) (fun c => ?_) (fun c => ?_)
        ·
          have c14 : ¬ w.toInt = 1 := c
          refine go_s (pc' := 52) (lv' := [(0, .ref 82), (1, .int w)]) (st' := [.int w]) rfl rfl rfl ?_
          refine go_iconst (v := 2) rfl (by decide) ?_
          refine go_ic (tgt := 63) rfl (by decide) (fun c => ?_) (fun c => ?_)
          ·
            have c15 : ¬ w.toInt = 2 := c
            refine go_s (pc' := 64) (lv' := [(0, .ref 82), (1, .int w)]) (st' := [.ref 82]) rfl rfl rfl ?_
            refine go_get (v := .int (-4)) rfl (ab_fo q10 p1_o_p1_C28_82 (by decide)) rfl ?_
            refine go_ri rfl rfl ?_
            exact ⟨(by unfold an_quarrels; first | (rw [if_pos (by omega)]; done) | (rw [if_neg (by omega)]; done) | (rw [if_neg (by omega), if_pos (by omega)]; done) | (rw [if_neg (by omega), if_neg (by omega)]; done) | (rw [if_pos (by omega), if_pos (by omega)]; done) | (rw [if_pos (by omega), if_neg (by omega)]; done) | decide | (simp; omega)), x11⟩
          ·
            have c16 : ¬ (¬ w.toInt = 2) := c
            refine go_s (pc' := 57) (lv' := [(0, .ref 82), (1, .int w)]) (st' := [.ref 82]) rfl rfl rfl ?_
            refine go_get (v := .int (-4)) rfl (ab_fo q10 p1_o_p1_C28_82 (by decide)) rfl ?_
            refine go_goto (tgt := 67) rfl (by decide) ?_
            refine go_ri rfl rfl ?_
            exact ⟨(by unfold an_quarrels; first | (rw [if_pos (by omega)]; done) | (rw [if_neg (by omega)]; done) | (rw [if_neg (by omega), if_pos (by omega)]; done) | (rw [if_neg (by omega), if_neg (by omega)]; done) | (rw [if_pos (by omega), if_pos (by omega)]; done) | (rw [if_pos (by omega), if_neg (by omega)]; done) | decide | (simp; omega)), x11⟩
        ·
          have c17 : ¬ (¬ w.toInt = 1) := c
          refine go_s (pc' := 45) (lv' := [(0, .ref 82), (1, .int w)]) (st' := [.ref 82]) rfl rfl rfl ?_
          refine go_get (v := .int 0) rfl (ab_fo q10 p1_o_p1_C28_82 (by decide)) rfl ?_
          refine go_goto (tgt := 67) rfl (by decide) ?_
          refine go_ri rfl rfl ?_
          exact ⟨(by unfold an_quarrels; first | (rw [if_pos (by omega)]; done) | (rw [if_neg (by omega)]; done) | (rw [if_neg (by omega), if_pos (by omega)]; done) | (rw [if_neg (by omega), if_neg (by omega)]; done) | (rw [if_pos (by omega), if_pos (by omega)]; done) | (rw [if_pos (by omega), if_neg (by omega)]; done) | decide | (simp; omega)), x11⟩
      ·
        have c18 : ¬ (¬ w.toInt = 0) := c
        refine go_s (pc' := 33) (lv' := [(0, .ref 82), (1, .int w)]) (st' := [.ref 82]) rfl rfl rfl ?_
        refine go_get (v := .int 0) rfl (ab_fo q10 p1_o_p1_C28_82 (by decide)) rfl ?_
        refine go_goto (tgt := 67) rfl (by decide) ?_
        refine go_ri rfl rfl ?_
        exact ⟨(by unfold an_quarrels; first | (rw [if_pos (by omega)]; done) | (rw [if_neg (by omega)]; done) | (rw [if_neg (by omega), if_pos (by omega)]; done) | (rw [if_neg (by omega), if_neg (by omega)]; done) | (rw [if_pos (by omega), if_pos (by omega)]; done) | (rw [if_pos (by omega), if_neg (by omega)]; done) | decide | (simp; omega)), x11⟩
set_option maxHeartbeats 16000000 in
set_option maxRecDepth 20000 in
theorem m_back {g : ab_H} (q : ab_sim p1_Sm p1_Hm g) (w : Int32) : ab_go 999 ab_M_X10_back 0 [(0, .ref 82), (1, .int w)] [] g (fun r g' => r = some (.int (an_back w)) ∧ p1_Y g g') := by
  have hz : g.1 = 120 := q.1.symm
  have x0 : p1_Y g g := ⟨q.1.symm, q.2.1.symm, rfl⟩
  refine go_s (pc' := 1) (lv' := [(0, .ref 82), (1, .int w)]) (st' := [.int w]) rfl rfl rfl ?_
  refine go_i2l (v := Int32.toInt64 w) rfl rfl ?_
  refine go_lconst (v := 0) rfl (by decide) ?_
  refine go_ldc2 (v := 3) rfl (by decide) ?_
  refine go_cc rfl rfl rfl (lv0 := [(0, .long (Int32.toInt64 w)), (2, .long 0), (4, .long 3)]) rfl ?_
  refine go_s (pc' := 1) (lv' := [(0, .long (Int32.toInt64 w)), (2, .long 0), (4, .long 3)]) (st' := [.long (Int32.toInt64 w)]) rfl rfl rfl ?_
  refine go_s (pc' := 2) (lv' := [(0, .long (Int32.toInt64 w)), (2, .long 0), (4, .long 3)]) (st' := [.long 0, .long (Int32.toInt64 w)]) rfl rfl rfl ?_
  refine go_lc (v := lg_cmp (Int32.toInt64 w) 0) rfl rfl ?_
  refine go_ifl (tgt := 17) rfl (by decide) (fun c => ?_) (fun c => ?_)
  ·
    have c1 : w.toInt < 0 := by first | exact c | (rw [Int32.toInt_toInt64] at c; exact c) | (rw [Int32.toInt_toInt64, Int32.toInt_toInt64] at c; exact c)
    refine go_iconst (v := 0) rfl (by decide) ?_
    refine go_rz rfl rfl (by decide) ?_
    show ab_go 999 ab_M_X10_back 9 [(0, .ref 82), (1, .int w)] [.int 0] g _
    refine go_iff rfl (by decide) ?_
    refine go_iconst (v := (-1)) rfl (by decide) ?_
    refine go_ri rfl rfl ?_
    exact ⟨(by unfold an_back; first | (rw [if_pos (by omega)]; done) | (rw [if_neg (by omega)]; done) | (rw [if_neg (by omega), if_pos (by omega)]; done) | (rw [if_neg (by omega), if_neg (by omega)]; done) | (rw [if_pos (by omega), if_pos (by omega)]; done) | (rw [if_pos (by omega), if_neg (by omega)]; done) | decide | (simp; omega)), x0⟩
  ·
    have c2 : ¬ w.toInt < 0 := by first | exact c | (rw [Int32.toInt_toInt64] at c; exact c) | (rw [Int32.toInt_toInt64, Int32.toInt_toInt64] at c; exact c)
    refine go_s (pc' := 7) (lv' := [(0, .long (Int32.toInt64 w)), (2, .long 0), (4, .long 3)]) (st' := [.long (Int32.toInt64 w)]) rfl rfl rfl ?_
    refine go_s (pc' := 9) (lv' := [(0, .long (Int32.toInt64 w)), (2, .long 0), (4, .long 3)]) (st' := [.long 3, .long (Int32.toInt64 w)]) rfl rfl rfl ?_
    refine go_lc (v := lg_cmp (Int32.toInt64 w) 3) rfl rfl ?_
    refine go_ifl (tgt := 17) rfl (by decide) (fun c => ?_) (fun c => ?_)
    ·
      have c3 : 3 < w.toInt := by first | exact c | (rw [Int32.toInt_toInt64] at c; exact c) | (rw [Int32.toInt_toInt64, Int32.toInt_toInt64] at c; exact c)
      refine go_iconst (v := 0) rfl (by decide) ?_
      refine go_rz rfl rfl (by decide) ?_
      show ab_go 999 ab_M_X10_back 9 [(0, .ref 82), (1, .int w)] [.int 0] g _
      refine go_iff rfl (by decide) ?_
      refine go_iconst (v := (-1)) rfl (by decide) ?_
      refine go_ri rfl rfl ?_
      exact ⟨(by unfold an_back; first | (rw [if_pos (by omega)]; done) | (rw [if_neg (by omega)]; done) | (rw [if_neg (by omega), if_pos (by omega)]; done) | (rw [if_neg (by omega), if_neg (by omega)]; done) | (rw [if_pos (by omega), if_pos (by omega)]; done) | (rw [if_pos (by omega), if_neg (by omega)]; done) | decide | (simp; omega)), x0⟩
    ·
      have c4 : ¬ 3 < w.toInt := by first | exact c | (rw [Int32.toInt_toInt64] at c; exact c) | (rw [Int32.toInt_toInt64, Int32.toInt_toInt64] at c; exact c)
      refine go_iconst (v := 1) rfl (by decide) ?_
      refine go_goto (tgt := 18) rfl (by decide) ?_
      refine go_rz rfl rfl (by decide) ?_
      show ab_go 999 ab_M_X10_back 9 [(0, .ref 82), (1, .int w)] [.int 1] g _
      refine go_ift (tgt := 14) rfl (by decide) (by decide) ?_
      refine go_s (pc' := 15) (lv' := [(0, .ref 82), (1, .int w)]) (st' := [.ref 82]) rfl rfl rfl ?_
      refine go_c rfl rfl (ab_cal_v (As := []) (rest := []) rfl rfl rfl (ab_fo q p1_o_p1_Hm_82 (by decide)) rfl rfl rfl rfl) (lv0 := [(0, .ref 82)]) rfl (go_sim p1_R26 q) (fun r0 g5 hr => ?_)
      obtain ⟨rfl, z8, w0, q6, f0⟩ := hr
      have x7 := x0.next f0 z8 w0
      show ab_go 999 ab_M_X10_back 18 [(0, .ref 82), (1, .int w)] [.int 1] g5 _
      refine go_ift (tgt := 24) rfl (by decide) (by decide) ?_
      refine go_s (pc' := 25) (lv' := [(0, .ref 82), (1, .int w)]) (st' := [.ref 82]) rfl rfl rfl ?_
      refine go_c rfl rfl (ab_cal_v (As := []) (rest := []) rfl rfl rfl (ab_fo q6 p1_o_p1_C26_82 (by decide)) rfl rfl rfl rfl) (lv0 := [(0, .ref 82)]) rfl (go_sim p1_R29 q6) (fun r0 g9 hr => ?_)
      obtain ⟨rfl, z12, w0, q10, f0⟩ := hr
      have x11 := x7.next f0 z12 w0
      show ab_go 999 ab_M_X10_back 28 [(0, .ref 82), (1, .int w)] [] g9 _
      refine go_s (pc' := 29) (lv' := [(0, .ref 82), (1, .int w)]) (st' := [.int w]) rfl rfl rfl ?_
      refine go_if (tgt := 39) rfl (by decide) (fun c => ?_) (fun c => ?_)
      ·
        have c13 : ¬ w.toInt = 0 := c
        refine go_s (pc' := 40) (lv' := [(0, .ref 82), (1, .int w)]) (st' := [.int w]) rfl rfl rfl ?_
        refine go_iconst (v := 1) rfl (by decide) ?_
        refine go_ic (tgt := 51) rfl (by decide) (fun c => ?_) (fun c => ?_)
        ·
          have c14 : ¬ w.toInt = 1 := c
          refine go_s (pc' := 52) (lv' := [(0, .ref 82), (1, .int w)]) (st' := [.int w]) rfl rfl rfl ?_
          refine go_iconst (v := 2) rfl (by decide) ?_
          refine go_ic (tgt := 63) rfl (by decide) (fun c => ?_) (fun c => ?_)
          ·
            have c15 : ¬ w.toInt = 2 := c
            refine go_s (pc' := 64) (lv' := [(0, .ref 82), (1, .int w)]) (st' := [.ref 82]) rfl rfl rfl ?_
            refine go_get (v := .int (-4)) rfl (ab_fo q10 p1_o_p1_C29_82 (by decide)) rfl ?_
            refine go_ri rfl rfl ?_
            exact ⟨(by unfold an_back; first | (rw [if_pos (by omega)]; done) | (rw [if_neg (by omega)]; done) | (rw [if_neg (by omega), if_pos (by omega)]; done) | (rw [if_neg (by omega), if_neg (by omega)]; done) | (rw [if_pos (by omega), if_pos (by omega)]; done) | (rw [if_pos (by omega), if_neg (by omega)]; done) | decide | (simp; omega)), x11⟩
          ·
            have c16 : ¬ (¬ w.toInt = 2) := c
            refine go_s (pc' := 57) (lv' := [(0, .ref 82), (1, .int w)]) (st' := [.ref 82]) rfl rfl rfl ?_
            refine go_get (v := .int (-4)) rfl (ab_fo q10 p1_o_p1_C29_82 (by decide)) rfl ?_
            refine go_goto (tgt := 67) rfl (by decide) ?_
            refine go_ri rfl rfl ?_
            exact ⟨(by unfold an_back; first | (rw [if_pos (by omega)]; done) | (rw [if_neg (by omega)]; done) | (rw [if_neg (by omega), if_pos (by omega)]; done) | (rw [if_neg (by omega), if_neg (by omega)]; done) | (rw [if_pos (by omega), if_pos (by omega)]; done) | (rw [if_pos (by omega), if_neg (by omega)]; done) | decide | (simp; omega)), x11⟩
        ·
          have c17 : ¬ (¬ w.toInt = 1) := c
          refine go_s (pc' := 45) (lv' := [(0, .ref 82), (1, .int w)]) (st' := [.ref 82]) rfl rfl rfl ?_
          refine go_get (v := .int (-4)) rfl (ab_fo q10 p1_o_p1_C29_82 (by decide)) rfl ?_
          refine go_goto (tgt := 67) rfl (by decide) ?_
          refine go_ri rfl rfl ?_
          exact ⟨(by unfold an_back; first | (rw [if_pos (by omega)]; done) | (rw [if_neg (by omega)]; done) | (rw [if_neg (by omega), if_pos (by omega)]; done) | (rw [if_neg (by omega), if_neg (by omega)]; done) | (rw [if_pos (by omega), if_pos (by omega)]; done) | (rw [if_pos (by omega), if_neg (by omega)]; done) | decide | (simp; omega)), x11⟩
      ·
        have c18 : ¬ (¬ w.toInt = 0) := c
        refine go_s (pc' := 33) (lv' := [(0, .ref 82), (1, .int w)]) (st' := [.ref 82]) rfl rfl rfl ?_
        refine go_get (v := .int 0) rfl (ab_fo q10 p1_o_p1_C29_82 (by decide)) rfl ?_
        refine go_goto (tgt := 67) rfl (by decide) ?_
        refine go_ri rfl rfl ?_
        exact ⟨(by unfold an_back; first | (rw [if_pos (by omega)]; done) | (rw [if_neg (by omega)]; done) | (rw [if_neg (by omega), if_pos (by omega)]; done) | (rw [if_neg (by omega), if_neg (by omega)]; done) | (rw [if_pos (by omega), if_pos (by omega)]; done) | (rw [if_pos (by omega), if_neg (by omega)]; done) | decide | (simp; omega)), x11⟩
set_option maxHeartbeats 16000000 in
set_option maxRecDepth 20000 in
theorem m_stuck {g : ab_H} (q : ab_sim p1_Sm p1_Hm g) (w : Int32) : ab_go 999 ab_M_X10_stuck 0 [(0, .ref 82), (1, .int w)] [] g (fun r g' => r = some (.int (an_stuck w)) ∧ p1_Y g g') := by
  have hz : g.1 = 120 := q.1.symm
  have x0 : p1_Y g g := ⟨q.1.symm, q.2.1.symm, rfl⟩
  by_cases c0 : w.toInt = 0
  ·
    obtain rfl : w = 0 := ab_i0 0 c0
    obtain ⟨n, r, hF, hx, hr, z, w0, q1, f0⟩ := go_sim p1_R30 q
    exact ⟨n, r, hF, hx, hr, x0.next f0 z w0⟩
  ·
    by_cases c1 : w.toInt = 1
    ·
      obtain rfl : w = 1 := ab_i0 1 c1
      obtain ⟨n, r, hF, hx, hr, z, w0, q1, f0⟩ := go_sim p1_R31 q
      exact ⟨n, r, hF, hx, hr, x0.next f0 z w0⟩
    ·
      by_cases c2 : w.toInt = 2
      ·
        obtain rfl : w = 2 := ab_i0 2 c2
        obtain ⟨n, r, hF, hx, hr, z, w0, q1, f0⟩ := go_sim p1_R32 q
        exact ⟨n, r, hF, hx, hr, x0.next f0 z w0⟩
      ·
        refine go_s (pc' := 1) (lv' := [(0, .ref 82), (1, .int w)]) (st' := [.int w]) rfl rfl rfl ?_
        refine go_i2l (v := Int32.toInt64 w) rfl rfl ?_
        refine go_lconst (v := 0) rfl (by decide) ?_
        refine go_ldc2 (v := 2) rfl (by decide) ?_
        refine go_cc rfl rfl rfl (lv0 := [(0, .long (Int32.toInt64 w)), (2, .long 0), (4, .long 2)]) rfl ?_
        refine go_s (pc' := 1) (lv' := [(0, .long (Int32.toInt64 w)), (2, .long 0), (4, .long 2)]) (st' := [.long (Int32.toInt64 w)]) rfl rfl rfl ?_
        refine go_s (pc' := 2) (lv' := [(0, .long (Int32.toInt64 w)), (2, .long 0), (4, .long 2)]) (st' := [.long 0, .long (Int32.toInt64 w)]) rfl rfl rfl ?_
        refine go_lc (v := lg_cmp (Int32.toInt64 w) 0) rfl rfl ?_
        refine go_ifl (tgt := 17) rfl (by decide) (fun c => ?_) (fun c => ?_)
        ·
          have c1 : w.toInt < 0 := by first | exact c | (rw [Int32.toInt_toInt64] at c; exact c) | (rw [Int32.toInt_toInt64, Int32.toInt_toInt64] at c; exact c)
          refine go_iconst (v := 0) rfl (by decide) ?_
          refine go_rz rfl rfl (by decide) ?_
          show ab_go 999 ab_M_X10_stuck 9 [(0, .ref 82), (1, .int w)] [.int 0] g _
          refine go_iff rfl (by decide) ?_
          refine go_iconst (v := (-1)) rfl (by decide) ?_
          refine go_ri rfl rfl ?_
          exact ⟨(by unfold an_stuck; rw [if_neg (by omega), if_neg (by omega)]), x0⟩
        ·
          have c2 : ¬ w.toInt < 0 := by first | exact c | (rw [Int32.toInt_toInt64] at c; exact c) | (rw [Int32.toInt_toInt64, Int32.toInt_toInt64] at c; exact c)
          refine go_s (pc' := 7) (lv' := [(0, .long (Int32.toInt64 w)), (2, .long 0), (4, .long 2)]) (st' := [.long (Int32.toInt64 w)]) rfl rfl rfl ?_
          refine go_s (pc' := 9) (lv' := [(0, .long (Int32.toInt64 w)), (2, .long 0), (4, .long 2)]) (st' := [.long 2, .long (Int32.toInt64 w)]) rfl rfl rfl ?_
          refine go_lc (v := lg_cmp (Int32.toInt64 w) 2) rfl rfl ?_
          refine go_ifl (tgt := 17) rfl (by decide) (fun c => ?_) (fun c => ?_)
          ·
            have c3 : 2 < w.toInt := by first | exact c | (rw [Int32.toInt_toInt64] at c; exact c) | (rw [Int32.toInt_toInt64, Int32.toInt_toInt64] at c; exact c)
            refine go_iconst (v := 0) rfl (by decide) ?_
            refine go_rz rfl rfl (by decide) ?_
            show ab_go 999 ab_M_X10_stuck 9 [(0, .ref 82), (1, .int w)] [.int 0] g _
            refine go_iff rfl (by decide) ?_
            refine go_iconst (v := (-1)) rfl (by decide) ?_
            refine go_ri rfl rfl ?_
            exact ⟨(by unfold an_stuck; rw [if_neg (by omega), if_neg (by omega)]), x0⟩
          ·
            have c4 : ¬ 2 < w.toInt := by first | exact c | (rw [Int32.toInt_toInt64] at c; exact c) | (rw [Int32.toInt_toInt64, Int32.toInt_toInt64] at c; exact c)
            exfalso; omega
set_option maxHeartbeats 16000000 in
set_option maxRecDepth 20000 in
theorem m_aim {g : ab_H} (q : ab_sim p1_Sm p1_Hm g) (w : Int32) (t : Int32) : ab_go 999 ab_M_X10_aim 0 [(0, .ref 82), (1, .int w), (2, .int t)] [] g (fun r g' => r = some (.int (-1)) ∧ p1_Y g g') := by
  have hz : g.1 = 120 := q.1.symm
  have x0 : p1_Y g g := ⟨q.1.symm, q.2.1.symm, rfl⟩
  refine go_s (pc' := 1) (lv' := [(0, .ref 82), (1, .int w), (2, .int t)]) (st' := [.ref 82]) rfl rfl rfl ?_
  refine go_s (pc' := 2) (lv' := [(0, .ref 82), (1, .int w), (2, .int t)]) (st' := [.int w, .ref 82]) rfl rfl rfl ?_
  refine go_cc rfl rfl (ab_cal_v (As := [.int w]) (rest := []) rfl rfl rfl (ab_fo q p1_o_p1_Hm_82 (by decide)) rfl rfl rfl rfl) (lv0 := [(0, .ref 82), (1, .int w)]) rfl ?_
  refine go_s (pc' := 1) (lv' := [(0, .ref 82), (1, .int w)]) (st' := [.int w]) rfl rfl rfl ?_
  refine go_i2l (v := Int32.toInt64 w) rfl rfl ?_
  refine go_lconst (v := 0) rfl (by decide) ?_
  refine go_s (pc' := 4) (lv' := [(0, .ref 82), (1, .int w)]) (st' := [.ref 82, .long 0, .long (Int32.toInt64 w)]) rfl rfl rfl ?_
  refine go_get (v := .int 0) rfl (ab_fo q p1_o_p1_Hm_82 (by decide)) rfl ?_
  refine go_iconst (v := 1) rfl (by decide) ?_
  refine go_b2 (v := (-1)) rfl rfl (fun _ => rfl) (by decide) ?_
  refine go_i2l (v := (-1)) rfl (by decide) ?_
  refine go_cc rfl rfl rfl (lv0 := [(0, .long (Int32.toInt64 w)), (2, .long 0), (4, .long (-1))]) rfl ?_
  refine go_s (pc' := 1) (lv' := [(0, .long (Int32.toInt64 w)), (2, .long 0), (4, .long (-1))]) (st' := [.long (Int32.toInt64 w)]) rfl rfl rfl ?_
  refine go_s (pc' := 2) (lv' := [(0, .long (Int32.toInt64 w)), (2, .long 0), (4, .long (-1))]) (st' := [.long 0, .long (Int32.toInt64 w)]) rfl rfl rfl ?_
  refine go_lc (v := lg_cmp (Int32.toInt64 w) 0) rfl rfl ?_
  refine go_ifl (tgt := 17) rfl (by decide) (fun c => ?_) (fun c => ?_)
  ·
    have c1 : w.toInt < 0 := by first | exact c | (rw [Int32.toInt_toInt64] at c; exact c) | (rw [Int32.toInt_toInt64, Int32.toInt_toInt64] at c; exact c)
    refine go_iconst (v := 0) rfl (by decide) ?_
    refine go_rz rfl rfl (by decide) ?_
    show ab_go 998 ab_M_X10_isWire 13 [(0, .ref 82), (1, .int w)] [.int 0] g _
    refine go_rz rfl rfl (by decide) ?_
    show ab_go 999 ab_M_X10_aim 5 [(0, .ref 82), (1, .int w), (2, .int t)] [.int 0] g _
    refine go_ift (tgt := 26) rfl (by decide) (by decide) ?_
    refine go_iconst (v := (-1)) rfl (by decide) ?_
    refine go_ri rfl rfl ?_
    exact ⟨rfl, x0⟩
  ·
    have c2 : ¬ w.toInt < 0 := by first | exact c | (rw [Int32.toInt_toInt64] at c; exact c) | (rw [Int32.toInt_toInt64, Int32.toInt_toInt64] at c; exact c)
    refine go_s (pc' := 7) (lv' := [(0, .long (Int32.toInt64 w)), (2, .long 0), (4, .long (-1))]) (st' := [.long (Int32.toInt64 w)]) rfl rfl rfl ?_
    refine go_s (pc' := 9) (lv' := [(0, .long (Int32.toInt64 w)), (2, .long 0), (4, .long (-1))]) (st' := [.long (-1), .long (Int32.toInt64 w)]) rfl rfl rfl ?_
    refine go_lc (v := lg_cmp (Int32.toInt64 w) (-1)) rfl rfl ?_
    refine go_ifl (tgt := 17) rfl (by decide) (fun c => ?_) (fun c => ?_)
    ·
      have c3 : (-1) < w.toInt := by first | exact c | (rw [Int32.toInt_toInt64] at c; exact c) | (rw [Int32.toInt_toInt64, Int32.toInt_toInt64] at c; exact c)
      refine go_iconst (v := 0) rfl (by decide) ?_
      refine go_rz rfl rfl (by decide) ?_
      show ab_go 998 ab_M_X10_isWire 13 [(0, .ref 82), (1, .int w)] [.int 0] g _
      refine go_rz rfl rfl (by decide) ?_
      show ab_go 999 ab_M_X10_aim 5 [(0, .ref 82), (1, .int w), (2, .int t)] [.int 0] g _
      refine go_ift (tgt := 26) rfl (by decide) (by decide) ?_
      refine go_iconst (v := (-1)) rfl (by decide) ?_
      refine go_ri rfl rfl ?_
      exact ⟨rfl, x0⟩
    ·
      have c4 : ¬ (-1) < w.toInt := by first | exact c | (rw [Int32.toInt_toInt64] at c; exact c) | (rw [Int32.toInt_toInt64, Int32.toInt_toInt64] at c; exact c)
      exfalso; omega
set_option maxHeartbeats 16000000 in
set_option maxRecDepth 20000 in
theorem m_makes {g : ab_H} (q : ab_sim p1_Sm p1_Hm g) (w : Int32) (t : Int32) : ab_go 999 ab_M_X10_makes 0 [(0, .ref 82), (1, .int w), (2, .int t)] [] g (fun r g' => r = some (.int (-1)) ∧ p1_Y g g') := by
  have hz : g.1 = 120 := q.1.symm
  have x0 : p1_Y g g := ⟨q.1.symm, q.2.1.symm, rfl⟩
  refine go_s (pc' := 1) (lv' := [(0, .ref 82), (1, .int w), (2, .int t)]) (st' := [.ref 82]) rfl rfl rfl ?_
  refine go_s (pc' := 2) (lv' := [(0, .ref 82), (1, .int w), (2, .int t)]) (st' := [.int w, .ref 82]) rfl rfl rfl ?_
  refine go_cc rfl rfl (ab_cal_v (As := [.int w]) (rest := []) rfl rfl rfl (ab_fo q p1_o_p1_Hm_82 (by decide)) rfl rfl rfl rfl) (lv0 := [(0, .ref 82), (1, .int w)]) rfl ?_
  refine go_s (pc' := 1) (lv' := [(0, .ref 82), (1, .int w)]) (st' := [.ref 82]) rfl rfl rfl ?_
  refine go_s (pc' := 2) (lv' := [(0, .ref 82), (1, .int w)]) (st' := [.int w, .ref 82]) rfl rfl rfl ?_
  refine go_cc rfl rfl (ab_cal_v (As := [.int w]) (rest := []) rfl rfl rfl (ab_fo q p1_o_p1_Hm_82 (by decide)) rfl rfl rfl rfl) (lv0 := [(0, .ref 82), (1, .int w)]) rfl ?_
  refine go_s (pc' := 1) (lv' := [(0, .ref 82), (1, .int w)]) (st' := [.int w]) rfl rfl rfl ?_
  refine go_i2l (v := Int32.toInt64 w) rfl rfl ?_
  refine go_lconst (v := 0) rfl (by decide) ?_
  refine go_s (pc' := 4) (lv' := [(0, .ref 82), (1, .int w)]) (st' := [.ref 82, .long 0, .long (Int32.toInt64 w)]) rfl rfl rfl ?_
  refine go_get (v := .int 0) rfl (ab_fo q p1_o_p1_Hm_82 (by decide)) rfl ?_
  refine go_iconst (v := 1) rfl (by decide) ?_
  refine go_b2 (v := (-1)) rfl rfl (fun _ => rfl) (by decide) ?_
  refine go_i2l (v := (-1)) rfl (by decide) ?_
  refine go_cc rfl rfl rfl (lv0 := [(0, .long (Int32.toInt64 w)), (2, .long 0), (4, .long (-1))]) rfl ?_
  refine go_s (pc' := 1) (lv' := [(0, .long (Int32.toInt64 w)), (2, .long 0), (4, .long (-1))]) (st' := [.long (Int32.toInt64 w)]) rfl rfl rfl ?_
  refine go_s (pc' := 2) (lv' := [(0, .long (Int32.toInt64 w)), (2, .long 0), (4, .long (-1))]) (st' := [.long 0, .long (Int32.toInt64 w)]) rfl rfl rfl ?_
  refine go_lc (v := lg_cmp (Int32.toInt64 w) 0) rfl rfl ?_
  refine go_ifl (tgt := 17) rfl (by decide) (fun c => ?_) (fun c => ?_)
  ·
    have c1 : w.toInt < 0 := by first | exact c | (rw [Int32.toInt_toInt64] at c; exact c) | (rw [Int32.toInt_toInt64, Int32.toInt_toInt64] at c; exact c)
    refine go_iconst (v := 0) rfl (by decide) ?_
    refine go_rz rfl rfl (by decide) ?_
    show ab_go 997 ab_M_X10_isWire 13 [(0, .ref 82), (1, .int w)] [.int 0] g _
    refine go_rz rfl rfl (by decide) ?_
    show ab_go 998 ab_M_X10_isOwn 5 [(0, .ref 82), (1, .int w)] [.int 0] g _
    refine go_ift (tgt := 21) rfl (by decide) (by decide) ?_
    refine go_iconst (v := 0) rfl (by decide) ?_
    refine go_rz rfl rfl (by decide) ?_
    show ab_go 999 ab_M_X10_makes 5 [(0, .ref 82), (1, .int w), (2, .int t)] [.int 0] g _
    refine go_ift (tgt := 32) rfl (by decide) (by decide) ?_
    refine go_iconst (v := (-1)) rfl (by decide) ?_
    refine go_ri rfl rfl ?_
    exact ⟨rfl, x0⟩
  ·
    have c2 : ¬ w.toInt < 0 := by first | exact c | (rw [Int32.toInt_toInt64] at c; exact c) | (rw [Int32.toInt_toInt64, Int32.toInt_toInt64] at c; exact c)
    refine go_s (pc' := 7) (lv' := [(0, .long (Int32.toInt64 w)), (2, .long 0), (4, .long (-1))]) (st' := [.long (Int32.toInt64 w)]) rfl rfl rfl ?_
    refine go_s (pc' := 9) (lv' := [(0, .long (Int32.toInt64 w)), (2, .long 0), (4, .long (-1))]) (st' := [.long (-1), .long (Int32.toInt64 w)]) rfl rfl rfl ?_
    refine go_lc (v := lg_cmp (Int32.toInt64 w) (-1)) rfl rfl ?_
    refine go_ifl (tgt := 17) rfl (by decide) (fun c => ?_) (fun c => ?_)
    ·
      have c3 : (-1) < w.toInt := by first | exact c | (rw [Int32.toInt_toInt64] at c; exact c) | (rw [Int32.toInt_toInt64, Int32.toInt_toInt64] at c; exact c)
      refine go_iconst (v := 0) rfl (by decide) ?_
      refine go_rz rfl rfl (by decide) ?_
      show ab_go 997 ab_M_X10_isWire 13 [(0, .ref 82), (1, .int w)] [.int 0] g _
      refine go_rz rfl rfl (by decide) ?_
      show ab_go 998 ab_M_X10_isOwn 5 [(0, .ref 82), (1, .int w)] [.int 0] g _
      refine go_ift (tgt := 21) rfl (by decide) (by decide) ?_
      refine go_iconst (v := 0) rfl (by decide) ?_
      refine go_rz rfl rfl (by decide) ?_
      show ab_go 999 ab_M_X10_makes 5 [(0, .ref 82), (1, .int w), (2, .int t)] [.int 0] g _
      refine go_ift (tgt := 32) rfl (by decide) (by decide) ?_
      refine go_iconst (v := (-1)) rfl (by decide) ?_
      refine go_ri rfl rfl ?_
      exact ⟨rfl, x0⟩
    ·
      have c4 : ¬ (-1) < w.toInt := by first | exact c | (rw [Int32.toInt_toInt64] at c; exact c) | (rw [Int32.toInt_toInt64, Int32.toInt_toInt64] at c; exact c)
      exfalso; omega
set_option maxHeartbeats 16000000 in
set_option maxRecDepth 20000 in
theorem m_judge {g : ab_H} (q : ab_sim p1_Sm p1_Hm g) (w : Int32) (k : Int32) (t : Int32) (f : Int32) (n : Int32) : ab_go 999 ab_M_X10_judge 0 [(0, .ref 82), (1, .int w), (2, .int k), (3, .int t), (4, .int f), (5, .int n)] [] g (fun r g' => r = some (.int (-1)) ∧ p1_Y g g') := by
  have hz : g.1 = 120 := q.1.symm
  have x0 : p1_Y g g := ⟨q.1.symm, q.2.1.symm, rfl⟩
  refine go_s (pc' := 1) (lv' := [(0, .ref 82), (1, .int w), (2, .int k), (3, .int t), (4, .int f), (5, .int n)]) (st' := [.ref 82]) rfl rfl rfl ?_
  refine go_s (pc' := 2) (lv' := [(0, .ref 82), (1, .int w), (2, .int k), (3, .int t), (4, .int f), (5, .int n)]) (st' := [.int w, .ref 82]) rfl rfl rfl ?_
  refine go_cc rfl rfl (ab_cal_v (As := [.int w]) (rest := []) rfl rfl rfl (ab_fo q p1_o_p1_Hm_82 (by decide)) rfl rfl rfl rfl) (lv0 := [(0, .ref 82), (1, .int w)]) rfl ?_
  refine go_s (pc' := 1) (lv' := [(0, .ref 82), (1, .int w)]) (st' := [.ref 82]) rfl rfl rfl ?_
  refine go_s (pc' := 2) (lv' := [(0, .ref 82), (1, .int w)]) (st' := [.int w, .ref 82]) rfl rfl rfl ?_
  refine go_cc rfl rfl (ab_cal_v (As := [.int w]) (rest := []) rfl rfl rfl (ab_fo q p1_o_p1_Hm_82 (by decide)) rfl rfl rfl rfl) (lv0 := [(0, .ref 82), (1, .int w)]) rfl ?_
  refine go_s (pc' := 1) (lv' := [(0, .ref 82), (1, .int w)]) (st' := [.int w]) rfl rfl rfl ?_
  refine go_i2l (v := Int32.toInt64 w) rfl rfl ?_
  refine go_lconst (v := 0) rfl (by decide) ?_
  refine go_s (pc' := 4) (lv' := [(0, .ref 82), (1, .int w)]) (st' := [.ref 82, .long 0, .long (Int32.toInt64 w)]) rfl rfl rfl ?_
  refine go_get (v := .int 0) rfl (ab_fo q p1_o_p1_Hm_82 (by decide)) rfl ?_
  refine go_iconst (v := 1) rfl (by decide) ?_
  refine go_b2 (v := (-1)) rfl rfl (fun _ => rfl) (by decide) ?_
  refine go_i2l (v := (-1)) rfl (by decide) ?_
  refine go_cc rfl rfl rfl (lv0 := [(0, .long (Int32.toInt64 w)), (2, .long 0), (4, .long (-1))]) rfl ?_
  refine go_s (pc' := 1) (lv' := [(0, .long (Int32.toInt64 w)), (2, .long 0), (4, .long (-1))]) (st' := [.long (Int32.toInt64 w)]) rfl rfl rfl ?_
  refine go_s (pc' := 2) (lv' := [(0, .long (Int32.toInt64 w)), (2, .long 0), (4, .long (-1))]) (st' := [.long 0, .long (Int32.toInt64 w)]) rfl rfl rfl ?_
  refine go_lc (v := lg_cmp (Int32.toInt64 w) 0) rfl rfl ?_
  refine go_ifl (tgt := 17) rfl (by decide) (fun c => ?_) (fun c => ?_)
  ·
    have c1 : w.toInt < 0 := by first | exact c | (rw [Int32.toInt_toInt64] at c; exact c) | (rw [Int32.toInt_toInt64, Int32.toInt_toInt64] at c; exact c)
    refine go_iconst (v := 0) rfl (by decide) ?_
    refine go_rz rfl rfl (by decide) ?_
    show ab_go 997 ab_M_X10_isWire 13 [(0, .ref 82), (1, .int w)] [.int 0] g _
    refine go_rz rfl rfl (by decide) ?_
    show ab_go 998 ab_M_X10_isOwn 5 [(0, .ref 82), (1, .int w)] [.int 0] g _
    refine go_ift (tgt := 21) rfl (by decide) (by decide) ?_
    refine go_iconst (v := 0) rfl (by decide) ?_
    refine go_rz rfl rfl (by decide) ?_
    show ab_go 999 ab_M_X10_judge 5 [(0, .ref 82), (1, .int w), (2, .int k), (3, .int t), (4, .int f), (5, .int n)] [.int 0] g _
    refine go_ift (tgt := 45) rfl (by decide) (by decide) ?_
    refine go_iconst (v := (-1)) rfl (by decide) ?_
    refine go_ri rfl rfl ?_
    exact ⟨rfl, x0⟩
  ·
    have c2 : ¬ w.toInt < 0 := by first | exact c | (rw [Int32.toInt_toInt64] at c; exact c) | (rw [Int32.toInt_toInt64, Int32.toInt_toInt64] at c; exact c)
    refine go_s (pc' := 7) (lv' := [(0, .long (Int32.toInt64 w)), (2, .long 0), (4, .long (-1))]) (st' := [.long (Int32.toInt64 w)]) rfl rfl rfl ?_
    refine go_s (pc' := 9) (lv' := [(0, .long (Int32.toInt64 w)), (2, .long 0), (4, .long (-1))]) (st' := [.long (-1), .long (Int32.toInt64 w)]) rfl rfl rfl ?_
    refine go_lc (v := lg_cmp (Int32.toInt64 w) (-1)) rfl rfl ?_
    refine go_ifl (tgt := 17) rfl (by decide) (fun c => ?_) (fun c => ?_)
    ·
      have c3 : (-1) < w.toInt := by first | exact c | (rw [Int32.toInt_toInt64] at c; exact c) | (rw [Int32.toInt_toInt64, Int32.toInt_toInt64] at c; exact c)
      refine go_iconst (v := 0) rfl (by decide) ?_
      refine go_rz rfl rfl (by decide) ?_
      show ab_go 997 ab_M_X10_isWire 13 [(0, .ref 82), (1, .int w)] [.int 0] g _
      refine go_rz rfl rfl (by decide) ?_
      show ab_go 998 ab_M_X10_isOwn 5 [(0, .ref 82), (1, .int w)] [.int 0] g _
      refine go_ift (tgt := 21) rfl (by decide) (by decide) ?_
      refine go_iconst (v := 0) rfl (by decide) ?_
      refine go_rz rfl rfl (by decide) ?_
      show ab_go 999 ab_M_X10_judge 5 [(0, .ref 82), (1, .int w), (2, .int k), (3, .int t), (4, .int f), (5, .int n)] [.int 0] g _
      refine go_ift (tgt := 45) rfl (by decide) (by decide) ?_
      refine go_iconst (v := (-1)) rfl (by decide) ?_
      refine go_ri rfl rfl ?_
      exact ⟨rfl, x0⟩
    ·
      have c4 : ¬ (-1) < w.toInt := by first | exact c | (rw [Int32.toInt_toInt64] at c; exact c) | (rw [Int32.toInt_toInt64, Int32.toInt_toInt64] at c; exact c)
      exfalso; omega
set_option maxHeartbeats 16000000 in
set_option maxRecDepth 20000 in
theorem m_cost {g : ab_H} (q : ab_sim p1_Sm p1_Hm g) : ab_go 999 ab_M_X10_cost 0 [(0, .ref 82)] [] g (fun r g' => r = some (.int 0) ∧ p1_Y g g') := by
  have x0 : p1_Y g g := ⟨q.1.symm, q.2.1.symm, rfl⟩
  obtain ⟨n, r, hF, hx, hr, z, w0, q1, f0⟩ := go_sim p1_R33 q
  exact ⟨n, r, hF, hx, hr, x0.next f0 z w0⟩
set_option maxHeartbeats 16000000 in
set_option maxRecDepth 20000 in
theorem m_would {g : ab_H} (q : ab_sim p1_Sm p1_Hm g) (e : Int32) (f : Int32) : ab_go 999 ab_M_X10_would 0 [(0, .ref 82), (1, .int e), (2, .int f)] [] g (fun r g' => r = some (.int (-1)) ∧ p1_Y g g') := by
  have hz : g.1 = 120 := q.1.symm
  have x0 : p1_Y g g := ⟨q.1.symm, q.2.1.symm, rfl⟩
  refine go_s (pc' := 1) (lv' := [(0, .ref 82), (1, .int e), (2, .int f)]) (st' := [.ref 82]) rfl rfl rfl ?_
  refine go_s (pc' := 2) (lv' := [(0, .ref 82), (1, .int e), (2, .int f)]) (st' := [.int e, .ref 82]) rfl rfl rfl ?_
  refine go_cc rfl rfl (ab_cal_v (As := [.int e]) (rest := []) rfl rfl rfl (ab_fo q p1_o_p1_Hm_82 (by decide)) rfl rfl rfl rfl) (lv0 := [(0, .ref 82), (1, .int e)]) rfl ?_
  refine go_s (pc' := 1) (lv' := [(0, .ref 82), (1, .int e)]) (st' := [.int e]) rfl rfl rfl ?_
  refine go_i2l (v := Int32.toInt64 e) rfl rfl ?_
  refine go_lconst (v := 0) rfl (by decide) ?_
  refine go_s (pc' := 4) (lv' := [(0, .ref 82), (1, .int e)]) (st' := [.ref 82, .long 0, .long (Int32.toInt64 e)]) rfl rfl rfl ?_
  refine go_get (v := .int 0) rfl (ab_fo q p1_o_p1_Hm_82 (by decide)) rfl ?_
  refine go_iconst (v := 1) rfl (by decide) ?_
  refine go_b2 (v := (-1)) rfl rfl (fun _ => rfl) (by decide) ?_
  refine go_i2l (v := (-1)) rfl (by decide) ?_
  refine go_cc rfl rfl rfl (lv0 := [(0, .long (Int32.toInt64 e)), (2, .long 0), (4, .long (-1))]) rfl ?_
  refine go_s (pc' := 1) (lv' := [(0, .long (Int32.toInt64 e)), (2, .long 0), (4, .long (-1))]) (st' := [.long (Int32.toInt64 e)]) rfl rfl rfl ?_
  refine go_s (pc' := 2) (lv' := [(0, .long (Int32.toInt64 e)), (2, .long 0), (4, .long (-1))]) (st' := [.long 0, .long (Int32.toInt64 e)]) rfl rfl rfl ?_
  refine go_lc (v := lg_cmp (Int32.toInt64 e) 0) rfl rfl ?_
  refine go_ifl (tgt := 17) rfl (by decide) (fun c => ?_) (fun c => ?_)
  ·
    have c1 : e.toInt < 0 := by first | exact c | (rw [Int32.toInt_toInt64] at c; exact c) | (rw [Int32.toInt_toInt64, Int32.toInt_toInt64] at c; exact c)
    refine go_iconst (v := 0) rfl (by decide) ?_
    refine go_rz rfl rfl (by decide) ?_
    show ab_go 998 ab_M_X10_isEvent 13 [(0, .ref 82), (1, .int e)] [.int 0] g _
    refine go_rz rfl rfl (by decide) ?_
    show ab_go 999 ab_M_X10_would 5 [(0, .ref 82), (1, .int e), (2, .int f)] [.int 0] g _
    refine go_ift (tgt := 21) rfl (by decide) (by decide) ?_
    refine go_iconst (v := (-1)) rfl (by decide) ?_
    refine go_ri rfl rfl ?_
    exact ⟨rfl, x0⟩
  ·
    have c2 : ¬ e.toInt < 0 := by first | exact c | (rw [Int32.toInt_toInt64] at c; exact c) | (rw [Int32.toInt_toInt64, Int32.toInt_toInt64] at c; exact c)
    refine go_s (pc' := 7) (lv' := [(0, .long (Int32.toInt64 e)), (2, .long 0), (4, .long (-1))]) (st' := [.long (Int32.toInt64 e)]) rfl rfl rfl ?_
    refine go_s (pc' := 9) (lv' := [(0, .long (Int32.toInt64 e)), (2, .long 0), (4, .long (-1))]) (st' := [.long (-1), .long (Int32.toInt64 e)]) rfl rfl rfl ?_
    refine go_lc (v := lg_cmp (Int32.toInt64 e) (-1)) rfl rfl ?_
    refine go_ifl (tgt := 17) rfl (by decide) (fun c => ?_) (fun c => ?_)
    ·
      have c3 : (-1) < e.toInt := by first | exact c | (rw [Int32.toInt_toInt64] at c; exact c) | (rw [Int32.toInt_toInt64, Int32.toInt_toInt64] at c; exact c)
      refine go_iconst (v := 0) rfl (by decide) ?_
      refine go_rz rfl rfl (by decide) ?_
      show ab_go 998 ab_M_X10_isEvent 13 [(0, .ref 82), (1, .int e)] [.int 0] g _
      refine go_rz rfl rfl (by decide) ?_
      show ab_go 999 ab_M_X10_would 5 [(0, .ref 82), (1, .int e), (2, .int f)] [.int 0] g _
      refine go_ift (tgt := 21) rfl (by decide) (by decide) ?_
      refine go_iconst (v := (-1)) rfl (by decide) ?_
      refine go_ri rfl rfl ?_
      exact ⟨rfl, x0⟩
    ·
      have c4 : ¬ (-1) < e.toInt := by first | exact c | (rw [Int32.toInt_toInt64] at c; exact c) | (rw [Int32.toInt_toInt64, Int32.toInt_toInt64] at c; exact c)
      exfalso; omega
