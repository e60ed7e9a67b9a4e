set_option maxHeartbeats 16000000 in
set_option maxRecDepth 20000 in
theorem m_feed {g : ab_H} (q : ab_sim p1_Sm p1_Hm g) (v : Int64) : ab_go 999 ab_M_X10_feed 0 [(0, .ref 82), (1, .long v)] [] g (fun r g' => r = some (.int 8) ∧ p1_Y g g') := by
  have hz : g.1 = 120 := q.1.symm
  have x0 : p1_Y g g := ⟨q.1.symm, q.2.1.symm, rfl⟩
  refine go_s (pc' := 1) (lv' := [(0, .ref 82), (1, .long v)]) (st' := [.ref 82]) rfl rfl rfl ?_
  refine go_get (v := .int 0) rfl (ab_fo q p1_o_p1_Hm_82 (by decide)) rfl ?_
  refine go_bipush (v := 8) rfl (by decide) ?_
  refine go_b2 (v := 8) rfl rfl (fun _ => rfl) (by decide) ?_
  refine go_sipush (v := 240) rfl (by decide) ?_
  refine go_ict (tgt := 16) rfl (by decide) (by decide) ?_
  refine go_bipush (v := 56) rfl (by decide) ?_
  refine go_s (pc' := 19) (lv' := [(3, .int 56), (0, .ref 82), (1, .long v)]) (st' := []) rfl rfl rfl ?_
  refine go_s (pc' := 20) (lv' := [(3, .int 56), (0, .ref 82), (1, .long v)]) (st' := [.int 56]) rfl rfl rfl ?_
  refine go_iff rfl (by decide) ?_
  refine go_s (pc' := 24) (lv' := [(3, .int 56), (0, .ref 82), (1, .long v)]) (st' := [.ref 82]) rfl rfl rfl ?_
  refine go_get (v := .ref 91) rfl (ab_fo q p1_o_p1_Hm_82 (by decide)) rfl ?_
  refine go_s (pc' := 28) (lv' := [(3, .int 56), (0, .ref 82), (1, .long v)]) (st' := [.ref 82, .ref 91]) rfl rfl rfl ?_
  refine go_get (v := .int 0) rfl (ab_fo q p1_o_p1_Hm_82 (by decide)) rfl ?_
  refine go_s (pc' := 32) (lv' := [(3, .int 56), (0, .ref 82), (1, .long v)]) (st' := [.long v, .int 0, .ref 91]) rfl rfl rfl ?_
  refine go_s (pc' := 33) (lv' := [(3, .int 56), (0, .ref 82), (1, .long v)]) (st' := [.int 56, .long v, .int 0, .ref 91]) rfl rfl rfl ?_
  obtain ⟨w1, ew1⟩ : ∃ w : Int64, (v >>> (Int32.toInt64 56 &&& 63)) = w := ⟨_, rfl⟩
  refine go_ls (v := w1) rfl rfl (fun _ => rfl) ew1 ?_
  obtain ⟨w2, ew2⟩ : ∃ w : Int32, Int64.toInt32 w1 = w := ⟨_, rfl⟩
  refine go_l2i (v := w2) rfl ew2 ?_
  refine go_sipush (v := 255) rfl (by decide) ?_
  refine go_b2 (v := w2 &&& 255) rfl rfl (fun _ => rfl) rfl ?_
  obtain ⟨f3, h4, vh4⟩ := ab_fa q p1_a_p1_Hm_91_0
  refine go_ias rfl h4 (by decide) (by decide) ?_
  generalize upd f3 (Int32.toNatClampNeg 0) (w2 &&& 255) = f5
  obtain ⟨hk6, ehk6⟩ : ∃ q, ab_wr g 91 (.inl (0, 240, .inl f5)) = q := ⟨_, rfl⟩
  have zk6 : hk6.1 = 120 := by rw [← ehk6]; exact hz
  have xk6 : p1_Y g hk6 := by rw [← ehk6]; exact x0.wr (by decide) _
  have rk6_91 : ab_rd hk6 91 = some (.inl (0, 240, .inl f5)) := by rw [← ehk6]; exact ab_rd_self (by rw [hz]; decide)
  suffices hz : ab_go 999 ab_M_X10_feed 40 [(3, .int 56), (0, .ref 82), (1, .long v)] [] hk6 _ by rw [← ehk6] at hz; exact hz
  refine go_s (pc' := 41) (lv' := [(3, .int 56), (0, .ref 82), (1, .long v)]) (st' := [.ref 82]) rfl rfl rfl ?_
  refine go_s (pc' := 42) (lv' := [(3, .int 56), (0, .ref 82), (1, .long v)]) (st' := [.ref 82, .ref 82]) rfl rfl rfl ?_
  refine go_get (v := .int 0) rfl (by rw [← ehk6, ab_rd_other (by decide)]; exact ab_fo q p1_o_p1_Hm_82 (by decide)) rfl ?_
  refine go_iconst (v := 1) rfl (by decide) ?_
  refine go_b2 (v := 1) rfl rfl (fun _ => rfl) (by decide) ?_
  refine go_put (v := .int 1) rfl (by rw [← ehk6, ab_rd_other (by decide)]; exact ab_fo q p1_o_p1_Hm_82 (by decide)) (Nat.le_of_ble_eq_true rfl) (by decide) ?_
  obtain ⟨hk7, ehk7⟩ : ∃ q, ab_wr hk6 82 (.inr (10, [.int 0, .ref 83, .ref 84, .int 0, .ref 85, .ref 86, .ref 87, .ref 88, .ref 89, .ref 90, .int 0, .int 0, .ref 91, .int 1, .int 0, .int 0, .int 0, .int 0, .int 0, .int 0, .int 0, .int 0, .ref 92, .ref 93, .int 0, .ref 94, .ref 95, .ref 96, .ref 97, .ref 98, .int 0, .int 0, .int 0, .int 0, .ref 99, .ref 100, .ref 101, .int 0, .ref 102, .int 0, .int 0, .int 0, .int 0, .int 0, .int 0, .int 0, .int 0, .long 0, .long 0, .int 0, .ref 103, .ref 104, .ref 105, .ref 106, .ref 107, .ref 108, .ref 109, .int 0, .int 0, .ref 110, .ref 111, .ref 112, .ref 113, .ref 114, .int 0, .ref 115, .ref 116, .ref 117, .ref 118, .ref 119])) = q := ⟨_, rfl⟩
  have zk7 : hk7.1 = 120 := by rw [← ehk7]; exact zk6
  have xk7 : p1_Y g hk7 := by rw [← ehk7]; exact xk6.wr (by decide) _
  have rk7_82 : ab_rd hk7 82 = some (.inr (10, [.int 0, .ref 83, .ref 84, .int 0, .ref 85, .ref 86, .ref 87, .ref 88, .ref 89, .ref 90, .int 0, .int 0, .ref 91, .int 1, .int 0, .int 0, .int 0, .int 0, .int 0, .int 0, .int 0, .int 0, .ref 92, .ref 93, .int 0, .ref 94, .ref 95, .ref 96, .ref 97, .ref 98, .int 0, .int 0, .int 0, .int 0, .ref 99, .ref 100, .ref 101, .int 0, .ref 102, .int 0, .int 0, .int 0, .int 0, .int 0, .int 0, .int 0, .int 0, .long 0, .long 0, .int 0, .ref 103, .ref 104, .ref 105, .ref 106, .ref 107, .ref 108, .ref 109, .int 0, .int 0, .ref 110, .ref 111, .ref 112, .ref 113, .ref 114, .int 0, .ref 115, .ref 116, .ref 117, .ref 118, .ref 119])) := by rw [← ehk7]; exact ab_rd_self (by rw [zk6]; decide)
  suffices hz : ab_go 999 ab_M_X10_feed 50 [(3, .int 56), (0, .ref 82), (1, .long v)] [] hk7 _ by rw [← ehk7] at hz; exact hz
  refine go_s (pc' := 53) (lv' := [(3, .int 48), (0, .ref 82), (1, .long v)]) (st' := []) rfl rfl rfl ?_
  refine go_goto (tgt := 19) rfl (by decide) ?_
  refine go_s (pc' := 20) (lv' := [(3, .int 48), (0, .ref 82), (1, .long v)]) (st' := [.int 48]) rfl rfl rfl ?_
  refine go_iff rfl (by decide) ?_
  refine go_s (pc' := 24) (lv' := [(3, .int 48), (0, .ref 82), (1, .long v)]) (st' := [.ref 82]) rfl rfl rfl ?_
  refine go_get (v := .ref 91) rfl (rk7_82) rfl ?_
  refine go_s (pc' := 28) (lv' := [(3, .int 48), (0, .ref 82), (1, .long v)]) (st' := [.ref 82, .ref 91]) rfl rfl rfl ?_
  refine go_get (v := .int 1) rfl (rk7_82) rfl ?_
  refine go_s (pc' := 32) (lv' := [(3, .int 48), (0, .ref 82), (1, .long v)]) (st' := [.long v, .int 1, .ref 91]) rfl rfl rfl ?_
  refine go_s (pc' := 33) (lv' := [(3, .int 48), (0, .ref 82), (1, .long v)]) (st' := [.int 48, .long v, .int 1, .ref 91]) rfl rfl rfl ?_
  obtain ⟨w8, ew8⟩ : ∃ w : Int64, (v >>> (Int32.toInt64 48 &&& 63)) = w := ⟨_, rfl⟩
  refine go_ls (v := w8) rfl rfl (fun _ => rfl) ew8 ?_
  obtain ⟨w9, ew9⟩ : ∃ w : Int32, Int64.toInt32 w8 = w := ⟨_, rfl⟩
  refine go_l2i (v := w9) rfl ew9 ?_
  refine go_sipush (v := 255) rfl (by decide) ?_
  refine go_b2 (v := w9 &&& 255) rfl rfl (fun _ => rfl) rfl ?_
  refine go_ias rfl (by rw [← ehk7, ab_rd_other (by decide)]; exact rk6_91) (by decide) (by decide) ?_
  generalize upd f5 (Int32.toNatClampNeg 1) (w9 &&& 255) = f10
  obtain ⟨hk11, ehk11⟩ : ∃ q, ab_wr hk7 91 (.inl (0, 240, .inl f10)) = q := ⟨_, rfl⟩
  have zk11 : hk11.1 = 120 := by rw [← ehk11]; exact zk7
  have xk11 : p1_Y g hk11 := by rw [← ehk11]; exact xk7.wr (by decide) _
  have rk11_91 : ab_rd hk11 91 = some (.inl (0, 240, .inl f10)) := by rw [← ehk11]; exact ab_rd_self (by rw [zk7]; decide)
  suffices hz : ab_go 999 ab_M_X10_feed 40 [(3, .int 48), (0, .ref 82), (1, .long v)] [] hk11 _ by rw [← ehk11] at hz; exact hz
  refine go_s (pc' := 41) (lv' := [(3, .int 48), (0, .ref 82), (1, .long v)]) (st' := [.ref 82]) rfl rfl rfl ?_
  refine go_s (pc' := 42) (lv' := [(3, .int 48), (0, .ref 82), (1, .long v)]) (st' := [.ref 82, .ref 82]) rfl rfl rfl ?_
  refine go_get (v := .int 1) rfl (by rw [← ehk11, ab_rd_other (by decide)]; exact rk7_82) rfl ?_
  refine go_iconst (v := 1) rfl (by decide) ?_
  refine go_b2 (v := 2) rfl rfl (fun _ => rfl) (by decide) ?_
  refine go_put (v := .int 2) rfl (by rw [← ehk11, ab_rd_other (by decide)]; exact rk7_82) (Nat.le_of_ble_eq_true rfl) (by decide) ?_
  obtain ⟨hk12, ehk12⟩ : ∃ q, ab_wr hk11 82 (.inr (10, [.int 0, .ref 83, .ref 84, .int 0, .ref 85, .ref 86, .ref 87, .ref 88, .ref 89, .ref 90, .int 0, .int 0, .ref 91, .int 2, .int 0, .int 0, .int 0, .int 0, .int 0, .int 0, .int 0, .int 0, .ref 92, .ref 93, .int 0, .ref 94, .ref 95, .ref 96, .ref 97, .ref 98, .int 0, .int 0, .int 0, .int 0, .ref 99, .ref 100, .ref 101, .int 0, .ref 102, .int 0, .int 0, .int 0, .int 0, .int 0, .int 0, .int 0, .int 0, .long 0, .long 0, .int 0, .ref 103, .ref 104, .ref 105, .ref 106, .ref 107, .ref 108, .ref 109, .int 0, .int 0, .ref 110, .ref 111, .ref 112, .ref 113, .ref 114, .int 0, .ref 115, .ref 116, .ref 117, .ref 118, .ref 119])) = q := ⟨_, rfl⟩
  have zk12 : hk12.1 = 120 := by rw [← ehk12]; exact zk11
  have xk12 : p1_Y g hk12 := by rw [← ehk12]; exact xk11.wr (by decide) _
  have rk12_82 : ab_rd hk12 82 = some (.inr (10, [.int 0, .ref 83, .ref 84, .int 0, .ref 85, .ref 86, .ref 87, .ref 88, .ref 89, .ref 90, .int 0, .int 0, .ref 91, .int 2, .int 0, .int 0, .int 0, .int 0, .int 0, .int 0, .int 0, .int 0, .ref 92, .ref 93, .int 0, .ref 94, .ref 95, .ref 96, .ref 97, .ref 98, .int 0, .int 0, .int 0, .int 0, .ref 99, .ref 100, .ref 101, .int 0, .ref 102, .int 0, .int 0, .int 0, .int 0, .int 0, .int 0, .int 0, .int 0, .long 0, .long 0, .int 0, .ref 103, .ref 104, .ref 105, .ref 106, .ref 107, .ref 108, .ref 109, .int 0, .int 0, .ref 110, .ref 111, .ref 112, .ref 113, .ref 114, .int 0, .ref 115, .ref 116, .ref 117, .ref 118, .ref 119])) := by rw [← ehk12]; exact ab_rd_self (by rw [zk11]; decide)
  suffices hz : ab_go 999 ab_M_X10_feed 50 [(3, .int 48), (0, .ref 82), (1, .long v)] [] hk12 _ by rw [← ehk12] at hz; exact hz
  refine go_s (pc' := 53) (lv' := [(3, .int 40), (0, .ref 82), (1, .long v)]) (st' := []) rfl rfl rfl ?_
  refine go_goto (tgt := 19) rfl (by decide) ?_
  refine go_s (pc' := 20) (lv' := [(3, .int 40), (0, .ref 82), (1, .long v)]) (st' := [.int 40]) rfl rfl rfl ?_
  refine go_iff rfl (by decide) ?_
  refine go_s (pc' := 24) (lv' := [(3, .int 40), (0, .ref 82), (1, .long v)]) (st' := [.ref 82]) rfl rfl rfl ?_
  refine go_get (v := .ref 91) rfl (rk12_82) rfl ?_
  refine go_s (pc' := 28) (lv' := [(3, .int 40), (0, .ref 82), (1, .long v)]) (st' := [.ref 82, .ref 91]) rfl rfl rfl ?_
  refine go_get (v := .int 2) rfl (rk12_82) rfl ?_
  refine go_s (pc' := 32) (lv' := [(3, .int 40), (0, .ref 82), (1, .long v)]) (st' := [.long v, .int 2, .ref 91]) rfl rfl rfl ?_
  refine go_s (pc' := 33) (lv' := [(3, .int 40), (0, .ref 82), (1, .long v)]) (st' := [.int 40, .long v, .int 2, .ref 91]) rfl rfl rfl ?_
  obtain ⟨w13, ew13⟩ : ∃ w : Int64, (v >>> (Int32.toInt64 40 &&& 63)) = w := ⟨_, rfl⟩
  refine go_ls (v := w13) rfl rfl (fun _ => rfl) ew13 ?_
  obtain ⟨w14, ew14⟩ : ∃ w : Int32, Int64.toInt32 w13 = w := ⟨_, rfl⟩
  refine go_l2i (v := w14) rfl ew14 ?_
  refine go_sipush (v := 255) rfl (by decide) ?_
  refine go_b2 (v := w14 &&& 255) rfl rfl (fun _ => rfl) rfl ?_
  refine go_ias rfl (by rw [← ehk12, ab_rd_other (by decide)]; exact rk11_91) (by decide) (by decide) ?_
  generalize upd f10 (Int32.toNatClampNeg 2) (w14 &&& 255) = f15
  obtain ⟨hk16, ehk16⟩ : ∃ q, ab_wr hk12 91 (.inl (0, 240, .inl f15)) = q := ⟨_, rfl⟩
  have zk16 : hk16.1 = 120 := by rw [← ehk16]; exact zk12
  have xk16 : p1_Y g hk16 := by rw [← ehk16]; exact xk12.wr (by decide) _
  have rk16_91 : ab_rd hk16 91 = some (.inl (0, 240, .inl f15)) := by rw [← ehk16]; exact ab_rd_self (by rw [zk12]; decide)
  suffices hz : ab_go 999 ab_M_X10_feed 40 [(3, .int 40), (0, .ref 82), (1, .long v)] [] hk16 _ by rw [← ehk16] at hz; exact hz
  refine go_s (pc' := 41) (lv' := [(3, .int 40), (0, .ref 82), (1, .long v)]) (st' := [.ref 82]) rfl rfl rfl ?_
  refine go_s (pc' := 42) (lv' := [(3, .int 40), (0, .ref 82), (1, .long v)]) (st' := [.ref 82, .ref 82]) rfl rfl rfl ?_
  refine go_get (v := .int 2) rfl (by rw [← ehk16, ab_rd_other (by decide)]; exact rk12_82) rfl ?_
  refine go_iconst (v := 1) rfl (by decide) ?_
  refine go_b2 (v := 3) rfl rfl (fun _ => rfl) (by decide) ?_
  refine go_put (v := .int 3) rfl (by rw [← ehk16, ab_rd_other (by decide)]; exact rk12_82) (Nat.le_of_ble_eq_true rfl) (by decide) ?_
  obtain ⟨hk17, ehk17⟩ : ∃ q, ab_wr hk16 82 (.inr (10, [.int 0, .ref 83, .ref 84, .int 0, .ref 85, .ref 86, .ref 87, .ref 88, .ref 89, .ref 90, .int 0, .int 0, .ref 91, .int 3, .int 0, .int 0, .int 0, .int 0, .int 0, .int 0, .int 0, .int 0, .ref 92, .ref 93, .int 0, .ref 94, .ref 95, .ref 96, .ref 97, .ref 98, .int 0, .int 0, .int 0, .int 0, .ref 99, .ref 100, .ref 101, .int 0, .ref 102, .int 0, .int 0, .int 0, .int 0, .int 0, .int 0, .int 0, .int 0, .long 0, .long 0, .int 0, .ref 103, .ref 104, .ref 105, .ref 106, .ref 107, .ref 108, .ref 109, .int 0, .int 0, .ref 110, .ref 111, .ref 112, .ref 113, .ref 114, .int 0, .ref 115, .ref 116, .ref 117, .ref 118, .ref 119])) = q := ⟨_, rfl⟩
  have zk17 : hk17.1 = 120 := by rw [← ehk17]; exact zk16
  have xk17 : p1_Y g hk17 := by rw [← ehk17]; exact xk16.wr (by decide) _
  have rk17_82 : ab_rd hk17 82 = some (.inr (10, [.int 0, .ref 83, .ref 84, .int 0, .ref 85, .ref 86, .ref 87, .ref 88, .ref 89, .ref 90, .int 0, .int 0, .ref 91, .int 3, .int 0, .int 0, .int 0, .int 0, .int 0, .int 0, .int 0, .int 0, .ref 92, .ref 93, .int 0, .ref 94, .ref 95, .ref 96, .ref 97, .ref 98, .int 0, .int 0, .int 0, .int 0, .ref 99, .ref 100, .ref 101, .int 0, .ref 102, .int 0, .int 0, .int 0, .int 0, .int 0, .int 0, .int 0, .int 0, .long 0, .long 0, .int 0, .ref 103, .ref 104, .ref 105, .ref 106, .ref 107, .ref 108, .ref 109, .int 0, .int 0, .ref 110, .ref 111, .ref 112, .ref 113, .ref 114, .int 0, .ref 115, .ref 116, .ref 117, .ref 118, .ref 119])) := by rw [← ehk17]; exact ab_rd_self (by rw [zk16]; decide)
  suffices hz : ab_go 999 ab_M_X10_feed 50 [(3, .int 40), (0, .ref 82), (1, .long v)] [] hk17 _ by rw [← ehk17] at hz; exact hz
  refine go_s (pc' := 53) (lv' := [(3, .int 32), (0, .ref 82), (1, .long v)]) (st' := []) rfl rfl rfl ?_
  refine go_goto (tgt := 19) rfl (by decide) ?_
  refine go_s (pc' := 20) (lv' := [(3, .int 32), (0, .ref 82), (1, .long v)]) (st' := [.int 32]) rfl rfl rfl ?_
  refine go_iff rfl (by decide) ?_
  refine go_s (pc' := 24) (lv' := [(3, .int 32), (0, .ref 82), (1, .long v)]) (st' := [.ref 82]) rfl rfl rfl ?_
  refine go_get (v := .ref 91) rfl (rk17_82) rfl ?_
  refine go_s (pc' := 28) (lv' := [(3, .int 32), (0, .ref 82), (1, .long v)]) (st' := [.ref 82, .ref 91]) rfl rfl rfl ?_
  refine go_get (v := .int 3) rfl (rk17_82) rfl ?_
  refine go_s (pc' := 32) (lv' := [(3, .int 32), (0, .ref 82), (1, .long v)]) (st' := [.long v, .int 3, .ref 91]) rfl rfl rfl ?_
  refine go_s (pc' := 33) (lv' := [(3, .int 32), (0, .ref 82), (1, .long v)]) (st' := [.int 32, .long v, .int 3, .ref 91]) rfl rfl rfl ?_
  obtain ⟨w18, ew18⟩ : ∃ w : Int64, (v >>> (Int32.toInt64 32 &&& 63)) = w := ⟨_, rfl⟩
  refine go_ls (v := w18) rfl rfl (fun _ => rfl) ew18 ?_
  obtain ⟨w19, ew19⟩ : ∃ w : Int32, Int64.toInt32 w18 = w := ⟨_, rfl⟩
  refine go_l2i (v := w19) rfl ew19 ?_
  refine go_sipush (v := 255) rfl (by decide) ?_
  refine go_b2 (v := w19 &&& 255) rfl rfl (fun _ => rfl) rfl ?_
  refine go_ias rfl (by rw [← ehk17, ab_rd_other (by decide)]; exact rk16_91) (by decide) (by decide) ?_
  generalize upd f15 (Int32.toNatClampNeg 3) (w19 &&& 255) = f20
  obtain ⟨hk21, ehk21⟩ : ∃ q, ab_wr hk17 91 (.inl (0, 240, .inl f20)) = q := ⟨_, rfl⟩
  have zk21 : hk21.1 = 120 := by rw [← ehk21]; exact zk17
  have xk21 : p1_Y g hk21 := by rw [← ehk21]; exact xk17.wr (by decide) _
  have rk21_91 : ab_rd hk21 91 = some (.inl (0, 240, .inl f20)) := by rw [← ehk21]; exact ab_rd_self (by rw [zk17]; decide)
  suffices hz : ab_go 999 ab_M_X10_feed 40 [(3, .int 32), (0, .ref 82), (1, .long v)] [] hk21 _ by rw [← ehk21] at hz; exact hz
  refine go_s (pc' := 41) (lv' := [(3, .int 32), (0, .ref 82), (1, .long v)]) (st' := [.ref 82]) rfl rfl rfl ?_
  refine go_s (pc' := 42) (lv' := [(3, .int 32), (0, .ref 82), (1, .long v)]) (st' := [.ref 82, .ref 82]) rfl rfl rfl ?_
  refine go_get (v := .int 3) rfl (by rw [← ehk21, ab_rd_other (by decide)]; exact rk17_82) rfl ?_
  refine go_iconst (v := 1) rfl (by decide) ?_
  refine go_b2 (v := 4) rfl rfl (fun _ => rfl) (by decide) ?_
  refine go_put (v := .int 4) rfl (by rw [← ehk21, ab_rd_other (by decide)]; exact rk17_82) (Nat.le_of_ble_eq_true rfl) (by decide) ?_
  obtain ⟨hk22, ehk22⟩ : ∃ q, ab_wr hk21 82 (.inr (10, [.int 0, .ref 83, .ref 84, .int 0, .ref 85, .ref 86, .ref 87, .ref 88, .ref 89, .ref 90, .int 0, .int 0, .ref 91, .int 4, .int 0, .int 0, .int 0, .int 0, .int 0, .int 0, .int 0, .int 0, .ref 92, .ref 93, .int 0, .ref 94, .ref 95, .ref 96, .ref 97, .ref 98, .int 0, .int 0, .int 0, .int 0, .ref 99, .ref 100, .ref 101, .int 0, .ref 102, .int 0, .int 0, .int 0, .int 0, .int 0, .int 0, .int 0, .int 0, .long 0, .long 0, .int 0, .ref 103, .ref 104, .ref 105, .ref 106, .ref 107, .ref 108, .ref 109, .int 0, .int 0, .ref 110, .ref 111, .ref 112, .ref 113, .ref 114, .int 0, .ref 115, .ref 116, .ref 117, .ref 118, .ref 119])) = q := ⟨_, rfl⟩
  have zk22 : hk22.1 = 120 := by rw [← ehk22]; exact zk21
  have xk22 : p1_Y g hk22 := by rw [← ehk22]; exact xk21.wr (by decide) _
  have rk22_82 : ab_rd hk22 82 = some (.inr (10, [.int 0, .ref 83, .ref 84, .int 0, .ref 85, .ref 86, .ref 87, .ref 88, .ref 89, .ref 90, .int 0, .int 0, .ref 91, .int 4, .int 0, .int 0, .int 0, .int 0, .int 0, .int 0, .int 0, .int 0, .ref 92, .ref 93, .int 0, .ref 94, .ref 95, .ref 96, .ref 97, .ref 98, .int 0, .int 0, .int 0, .int 0, .ref 99, .ref 100, .ref 101, .int 0, .ref 102, .int 0, .int 0, .int 0, .int 0, .int 0, .int 0, .int 0, .int 0, .long 0, .long 0, .int 0, .ref 103, .ref 104, .ref 105, .ref 106, .ref 107, .ref 108, .ref 109, .int 0, .int 0, .ref 110, .ref 111, .ref 112, .ref 113, .ref 114, .int 0, .ref 115, .ref 116, .ref 117, .ref 118, .ref 119])) := by rw [← ehk22]; exact ab_rd_self (by rw [zk21]; decide)
  suffices hz : ab_go 999 ab_M_X10_feed 50 [(3, .int 32), (0, .ref 82), (1, .long v)] [] hk22 _ by rw [← ehk22] at hz; exact hz
  refine go_s (pc' := 53) (lv' := [(3, .int 24), (0, .ref 82), (1, .long v)]) (st' := []) rfl rfl rfl ?_
  refine go_goto (tgt := 19) rfl (by decide) ?_
  refine go_s (pc' := 20) (lv' := [(3, .int 24), (0, .ref 82), (1, .long v)]) (st' := [.int 24]) rfl rfl rfl ?_
  refine go_iff rfl (by decide) ?_
  refine go_s (pc' := 24) (lv' := [(3, .int 24), (0, .ref 82), (1, .long v)]) (st' := [.ref 82]) rfl rfl rfl ?_
  refine go_get (v := .ref 91) rfl (rk22_82) rfl ?_
  refine go_s (pc' := 28) (lv' := [(3, .int 24), (0, .ref 82), (1, .long v)]) (st' := [.ref 82, .ref 91]) rfl rfl rfl ?_
  refine go_get (v := .int 4) rfl (rk22_82) rfl ?_
  refine go_s (pc' := 32) (lv' := [(3, .int 24), (0, .ref 82), (1, .long v)]) (st' := [.long v, .int 4, .ref 91]) rfl rfl rfl ?_
  refine go_s (pc' := 33) (lv' := [(3, .int 24), (0, .ref 82), (1, .long v)]) (st' := [.int 24, .long v, .int 4, .ref 91]) rfl rfl rfl ?_
  obtain ⟨w23, ew23⟩ : ∃ w : Int64, (v >>> (Int32.toInt64 24 &&& 63)) = w := ⟨_, rfl⟩
  refine go_ls (v := w23) rfl rfl (fun _ => rfl) ew23 ?_
  obtain ⟨w24, ew24⟩ : ∃ w : Int32, Int64.toInt32 w23 = w := ⟨_, rfl⟩
  refine go_l2i (v := w24) rfl ew24 ?_
  refine go_sipush (v := 255) rfl (by decide) ?_
  refine go_b2 (v := w24 &&& 255) rfl rfl (fun _ => rfl) rfl ?_
  refine go_ias rfl (by rw [← ehk22, ab_rd_other (by decide)]; exact rk21_91) (by decide) (by decide) ?_
  generalize upd f20 (Int32.toNatClampNeg 4) (w24 &&& 255) = f25
  obtain ⟨hk26, ehk26⟩ : ∃ q, ab_wr hk22 91 (.inl (0, 240, .inl f25)) = q := ⟨_, rfl⟩
  have zk26 : hk26.1 = 120 := by rw [← ehk26]; exact zk22
  have xk26 : p1_Y g hk26 := by rw [← ehk26]; exact xk22.wr (by decide) _
  have rk26_91 : ab_rd hk26 91 = some (.inl (0, 240, .inl f25)) := by rw [← ehk26]; exact ab_rd_self (by rw [zk22]; decide)
  suffices hz : ab_go 999 ab_M_X10_feed 40 [(3, .int 24), (0, .ref 82), (1, .long v)] [] hk26 _ by rw [← ehk26] at hz; exact hz
  refine go_s (pc' := 41) (lv' := [(3, .int 24), (0, .ref 82), (1, .long v)]) (st' := [.ref 82]) rfl rfl rfl ?_
  refine go_s (pc' := 42) (lv' := [(3, .int 24), (0, .ref 82), (1, .long v)]) (st' := [.ref 82, .ref 82]) rfl rfl rfl ?_
  refine go_get (v := .int 4) rfl (by rw [← ehk26, ab_rd_other (by decide)]; exact rk22_82) rfl ?_
  refine go_iconst (v := 1) rfl (by decide) ?_
  refine go_b2 (v := 5) rfl rfl (fun _ => rfl) (by decide) ?_
  refine go_put (v := .int 5) rfl (by rw [← ehk26, ab_rd_other (by decide)]; exact rk22_82) (Nat.le_of_ble_eq_true rfl) (by decide) ?_
  obtain ⟨hk27, ehk27⟩ : ∃ q, ab_wr hk26 82 (.inr (10, [.int 0, .ref 83, .ref 84, .int 0, .ref 85, .ref 86, .ref 87, .ref 88, .ref 89, .ref 90, .int 0, .int 0, .ref 91, .int 5, .int 0, .int 0, .int 0, .int 0, .int 0, .int 0, .int 0, .int 0, .ref 92, .ref 93, .int 0, .ref 94, .ref 95, .ref 96, .ref 97, .ref 98, .int 0, .int 0, .int 0, .int 0, .ref 99, .ref 100, .ref 101, .int 0, .ref 102, .int 0, .int 0, .int 0, .int 0, .int 0, .int 0, .int 0, .int 0, .long 0, .long 0, .int 0, .ref 103, .ref 104, .ref 105, .ref 106, .ref 107, .ref 108, .ref 109, .int 0, .int 0, .ref 110, .ref 111, .ref 112, .ref 113, .ref 114, .int 0, .ref 115, .ref 116, .ref 117, .ref 118, .ref 119])) = q := ⟨_, rfl⟩
  have zk27 : hk27.1 = 120 := by rw [← ehk27]; exact zk26
  have xk27 : p1_Y g hk27 := by rw [← ehk27]; exact xk26.wr (by decide) _
  have rk27_82 : ab_rd hk27 82 = some (.inr (10, [.int 0, .ref 83, .ref 84, .int 0, .ref 85, .ref 86, .ref 87, .ref 88, .ref 89, .ref 90, .int 0, .int 0, .ref 91, .int 5, .int 0, .int 0, .int 0, .int 0, .int 0, .int 0, .int 0, .int 0, .ref 92, .ref 93, .int 0, .ref 94, .ref 95, .ref 96, .ref 97, .ref 98, .int 0, .int 0, .int 0, .int 0, .ref 99, .ref 100, .ref 101, .int 0, .ref 102, .int 0, .int 0, .int 0, .int 0, .int 0, .int 0, .int 0, .int 0, .long 0, .long 0, .int 0, .ref 103, .ref 104, .ref 105, .ref 106, .ref 107, .ref 108, .ref 109, .int 0, .int 0, .ref 110, .ref 111, .ref 112, .ref 113, .ref 114, .int 0, .ref 115, .ref 116, .ref 117, .ref 118, .ref 119])) := by rw [← ehk27]; exact ab_rd_self (by rw [zk26]; decide)
  suffices hz : ab_go 999 ab_M_X10_feed 50 [(3, .int 24), (0, .ref 82), (1, .long v)] [] hk27 _ by rw [← ehk27] at hz; exact hz
  refine go_s (pc' := 53) (lv' := [(3, .int 16), (0, .ref 82), (1, .long v)]) (st' := []) rfl rfl rfl ?_
  refine go_goto (tgt := 19) rfl (by decide) ?_
  refine go_s (pc' := 20) (lv' := [(3, .int 16), (0, .ref 82), (1, .long v)]) (st' := [.int 16]) rfl rfl rfl ?_
  refine go_iff rfl (by decide) ?_
  refine go_s (pc' := 24) (lv' := [(3, .int 16), (0, .ref 82), (1, .long v)]) (st' := [.ref 82]) rfl rfl rfl ?_
  refine go_get (v := .ref 91) rfl (rk27_82) rfl ?_
  refine go_s (pc' := 28) (lv' := [(3, .int 16), (0, .ref 82), (1, .long v)]) (st' := [.ref 82, .ref 91]) rfl rfl rfl ?_
  refine go_get (v := .int 5) rfl (rk27_82) rfl ?_
  refine go_s (pc' := 32) (lv' := [(3, .int 16), (0, .ref 82), (1, .long v)]) (st' := [.long v, .int 5, .ref 91]) rfl rfl rfl ?_
  refine go_s (pc' := 33) (lv' := [(3, .int 16), (0, .ref 82), (1, .long v)]) (st' := [.int 16, .long v, .int 5, .ref 91]) rfl rfl rfl ?_
  obtain ⟨w28, ew28⟩ : ∃ w : Int64, (v >>> (Int32.toInt64 16 &&& 63)) = w := ⟨_, rfl⟩
  refine go_ls (v := w28) rfl rfl (fun _ => rfl) ew28 ?_
  obtain ⟨w29, ew29⟩ : ∃ w : Int32, Int64.toInt32 w28 = w := ⟨_, rfl⟩
  refine go_l2i (v := w29) rfl ew29 ?_
  refine go_sipush (v := 255) rfl (by decide) ?_
  refine go_b2 (v := w29 &&& 255) rfl rfl (fun _ => rfl) rfl ?_
  refine go_ias rfl (by rw [← ehk27, ab_rd_other (by decide)]; exact rk26_91) (by decide) (by decide) ?_
  generalize upd f25 (Int32.toNatClampNeg 5) (w29 &&& 255) = f30
  obtain ⟨hk31, ehk31⟩ : ∃ q, ab_wr hk27 91 (.inl (0, 240, .inl f30)) = q := ⟨_, rfl⟩
  have zk31 : hk31.1 = 120 := by rw [← ehk31]; exact zk27
  have xk31 : p1_Y g hk31 := by rw [← ehk31]; exact xk27.wr (by decide) _
  have rk31_91 : ab_rd hk31 91 = some (.inl (0, 240, .inl f30)) := by rw [← ehk31]; exact ab_rd_self (by rw [zk27]; decide)
  suffices hz : ab_go 999 ab_M_X10_feed 40 [(3, .int 16), (0, .ref 82), (1, .long v)] [] hk31 _ by rw [← ehk31] at hz; exact hz
  refine go_s (pc' := 41) (lv' := [(3, .int 16), (0, .ref 82), (1, .long v)]) (st' := [.ref 82]) rfl rfl rfl ?_
  refine go_s (pc' := 42) (lv' := [(3, .int 16), (0, .ref 82), (1, .long v)]) (st' := [.ref 82, .ref 82]) rfl rfl rfl ?_
  refine go_get (v := .int 5) rfl (by rw [← ehk31, ab_rd_other (by decide)]; exact rk27_82) rfl ?_
  refine go_iconst (v := 1) rfl (by decide) ?_
  refine go_b2 (v := 6) rfl rfl (fun _ => rfl) (by decide) ?_
  refine go_put (v := .int 6) rfl (by rw [← ehk31, ab_rd_other (by decide)]; exact rk27_82) (Nat.le_of_ble_eq_true rfl) (by decide) ?_
  obtain ⟨hk32, ehk32⟩ : ∃ q, ab_wr hk31 82 (.inr (10, [.int 0, .ref 83, .ref 84, .int 0, .ref 85, .ref 86, .ref 87, .ref 88, .ref 89, .ref 90, .int 0, .int 0, .ref 91, .int 6, .int 0, .int 0, .int 0, .int 0, .int 0, .int 0, .int 0, .int 0, .ref 92, .ref 93, .int 0, .ref 94, .ref 95, .ref 96, .ref 97, .ref 98, .int 0, .int 0, .int 0, .int 0, .ref 99, .ref 100, .ref 101, .int 0, .ref 102, .int 0, .int 0, .int 0, .int 0, .int 0, .int 0, .int 0, .int 0, .long 0, .long 0, .int 0, .ref 103, .ref 104, .ref 105, .ref 106, .ref 107, .ref 108, .ref 109, .int 0, .int 0, .ref 110, .ref 111, .ref 112, .ref 113, .ref 114, .int 0, .ref 115, .ref 116, .ref 117, .ref 118, .ref 119])) = q := ⟨_, rfl⟩
  have zk32 : hk32.1 = 120 := by rw [← ehk32]; exact zk31
  have xk32 : p1_Y g hk32 := by rw [← ehk32]; exact xk31.wr (by decide) _
  have rk32_82 : ab_rd hk32 82 = some (.inr (10, [.int 0, .ref 83, .ref 84, .int 0, .ref 85, .ref 86, .ref 87, .ref 88, .ref 89, .ref 90, .int 0, .int 0, .ref 91, .int 6, .int 0, .int 0, .int 0, .int 0, .int 0, .int 0, .int 0, .int 0, .ref 92, .ref 93, .int 0, .ref 94, .ref 95, .ref 96, .ref 97, .ref 98, .int 0, .int 0, .int 0, .int 0, .ref 99, .ref 100, .ref 101, .int 0, .ref 102, .int 0, .int 0, .int 0, .int 0, .int 0, .int 0, .int 0, .int 0, .long 0, .long 0, .int 0, .ref 103, .ref 104, .ref 105, .ref 106, .ref 107, .ref 108, .ref 109, .int 0, .int 0, .ref 110, .ref 111, .ref 112, .ref 113, .ref 114, .int 0, .ref 115, .ref 116, .ref 117, .ref 118, .ref 119])) := by rw [← ehk32]; exact ab_rd_self (by rw [zk31]; decide)
  suffices hz : ab_go 999 ab_M_X10_feed 50 [(3, .int 16), (0, .ref 82), (1, .long v)] [] hk32 _ by rw [← ehk32] at hz; exact hz
  refine go_s (pc' := 53) (lv' := [(3, .int 8), (0, .ref 82), (1, .long v)]) (st' := []) rfl rfl rfl ?_
  refine go_goto (tgt := 19) rfl (by decide) ?_
  refine go_s (pc' := 20) (lv' := [(3, .int 8), (0, .ref 82), (1, .long v)]) (st' := [.int 8]) rfl rfl rfl ?_
  refine go_iff rfl (by decide) ?_
  refine go_s (pc' := 24) (lv' := [(3, .int 8), (0, .ref 82), (1, .long v)]) (st' := [.ref 82]) rfl rfl rfl ?_
  refine go_get (v := .ref 91) rfl (rk32_82) rfl ?_
  refine go_s (pc' := 28) (lv' := [(3, .int 8), (0, .ref 82), (1, .long v)]) (st' := [.ref 82, .ref 91]) rfl rfl rfl ?_
  refine go_get (v := .int 6) rfl (rk32_82) rfl ?_
  refine go_s (pc' := 32) (lv' := [(3, .int 8), (0, .ref 82), (1, .long v)]) (st' := [.long v, .int 6, .ref 91]) rfl rfl rfl ?_
  refine go_s (pc' := 33) (lv' := [(3, .int 8), (0, .ref 82), (1, .long v)]) (st' := [.int 8, .long v, .int 6, .ref 91]) rfl rfl rfl ?_
  obtain ⟨w33, ew33⟩ : ∃ w : Int64, (v >>> (Int32.toInt64 8 &&& 63)) = w := ⟨_, rfl⟩
  refine go_ls (v := w33) rfl rfl (fun _ => rfl) ew33 ?_
  obtain ⟨w34, ew34⟩ : ∃ w : Int32, Int64.toInt32 w33 = w := ⟨_, rfl⟩
  refine go_l2i (v := w34) rfl ew34 ?_
  refine go_sipush (v := 255) rfl (by decide) ?_
  refine go_b2 (v := w34 &&& 255) rfl rfl (fun _ => rfl) rfl ?_
  refine go_ias rfl (by rw [← ehk32, ab_rd_other (by decide)]; exact rk31_91) (by decide) (by decide) ?_
  generalize upd f30 (Int32.toNatClampNeg 6) (w34 &&& 255) = f35
  obtain ⟨hk36, ehk36⟩ : ∃ q, ab_wr hk32 91 (.inl (0, 240, .inl f35)) = q := ⟨_, rfl⟩
  have zk36 : hk36.1 = 120 := by rw [← ehk36]; exact zk32
  have xk36 : p1_Y g hk36 := by rw [← ehk36]; exact xk32.wr (by decide) _
  have rk36_91 : ab_rd hk36 91 = some (.inl (0, 240, .inl f35)) := by rw [← ehk36]; exact ab_rd_self (by rw [zk32]; decide)
  suffices hz : ab_go 999 ab_M_X10_feed 40 [(3, .int 8), (0, .ref 82), (1, .long v)] [] hk36 _ by rw [← ehk36] at hz; exact hz
  refine go_s (pc' := 41) (lv' := [(3, .int 8), (0, .ref 82), (1, .long v)]) (st' := [.ref 82]) rfl rfl rfl ?_
  refine go_s (pc' := 42) (lv' := [(3, .int 8), (0, .ref 82), (1, .long v)]) (st' := [.ref 82, .ref 82]) rfl rfl rfl ?_
  refine go_get (v := .int 6) rfl (by rw [← ehk36, ab_rd_other (by decide)]; exact rk32_82) rfl ?_
  refine go_iconst (v := 1) rfl (by decide) ?_
  refine go_b2 (v := 7) rfl rfl (fun _ => rfl) (by decide) ?_
  refine go_put (v := .int 7) rfl (by rw [← ehk36, ab_rd_other (by decide)]; exact rk32_82) (Nat.le_of_ble_eq_true rfl) (by decide) ?_
  obtain ⟨hk37, ehk37⟩ : ∃ q, ab_wr hk36 82 (.inr (10, [.int 0, .ref 83, .ref 84, .int 0, .ref 85, .ref 86, .ref 87, .ref 88, .ref 89, .ref 90, .int 0, .int 0, .ref 91, .int 7, .int 0, .int 0, .int 0, .int 0, .int 0, .int 0, .int 0, .int 0, .ref 92, .ref 93, .int 0, .ref 94, .ref 95, .ref 96, .ref 97, .ref 98, .int 0, .int 0, .int 0, .int 0, .ref 99, .ref 100, .ref 101, .int 0, .ref 102, .int 0, .int 0, .int 0, .int 0, .int 0, .int 0, .int 0, .int 0, .long 0, .long 0, .int 0, .ref 103, .ref 104, .ref 105, .ref 106, .ref 107, .ref 108, .ref 109, .int 0, .int 0, .ref 110, .ref 111, .ref 112, .ref 113, .ref 114, .int 0, .ref 115, .ref 116, .ref 117, .ref 118, .ref 119])) = q := ⟨_, rfl⟩
  have zk37 : hk37.1 = 120 := by rw [← ehk37]; exact zk36
  have xk37 : p1_Y g hk37 := by rw [← ehk37]; exact xk36.wr (by decide) _
  have rk37_82 : ab_rd hk37 82 = some (.inr (10, [.int 0, .ref 83, .ref 84, .int 0, .ref 85, .ref 86, .ref 87, .ref 88, .ref 89, .ref 90, .int 0, .int 0, .ref 91, .int 7, .int 0, .int 0, .int 0, .int 0, .int 0, .int 0, .int 0, .int 0, .ref 92, .ref 93, .int 0, .ref 94, .ref 95, .ref 96, .ref 97, .ref 98, .int 0, .int 0, .int 0, .int 0, .ref 99, .ref 100, .ref 101, .int 0, .ref 102, .int 0, .int 0, .int 0, .int 0, .int 0, .int 0, .int 0, .int 0, .long 0, .long 0, .int 0, .ref 103, .ref 104, .ref 105, .ref 106, .ref 107, .ref 108, .ref 109, .int 0, .int 0, .ref 110, .ref 111, .ref 112, .ref 113, .ref 114, .int 0, .ref 115, .ref 116, .ref 117, .ref 118, .ref 119])) := by rw [← ehk37]; exact ab_rd_self (by rw [zk36]; decide)
  suffices hz : ab_go 999 ab_M_X10_feed 50 [(3, .int 8), (0, .ref 82), (1, .long v)] [] hk37 _ by rw [← ehk37] at hz; exact hz
  refine go_s (pc' := 53) (lv' := [(3, .int 0), (0, .ref 82), (1, .long v)]) (st' := []) rfl rfl rfl ?_
  refine go_goto (tgt := 19) rfl (by decide) ?_
  refine go_s (pc' := 20) (lv' := [(3, .int 0), (0, .ref 82), (1, .long v)]) (st' := [.int 0]) rfl rfl rfl ?_
  refine go_iff rfl (by decide) ?_
  refine go_s (pc' := 24) (lv' := [(3, .int 0), (0, .ref 82), (1, .long v)]) (st' := [.ref 82]) rfl rfl rfl ?_
  refine go_get (v := .ref 91) rfl (rk37_82) rfl ?_
  refine go_s (pc' := 28) (lv' := [(3, .int 0), (0, .ref 82), (1, .long v)]) (st' := [.ref 82, .ref 91]) rfl rfl rfl ?_
  refine go_get (v := .int 7) rfl (rk37_82) rfl ?_
  refine go_s (pc' := 32) (lv' := [(3, .int 0), (0, .ref 82), (1, .long v)]) (st' := [.long v, .int 7, .ref 91]) rfl rfl rfl ?_
  refine go_s (pc' := 33) (lv' := [(3, .int 0), (0, .ref 82), (1, .long v)]) (st' := [.int 0, .long v, .int 7, .ref 91]) rfl rfl rfl ?_
  obtain ⟨w38, ew38⟩ : ∃ w : Int64, (v >>> (Int32.toInt64 0 &&& 63)) = w := ⟨_, rfl⟩
  refine go_ls (v := w38) rfl rfl (fun _ => rfl) ew38 ?_
  obtain ⟨w39, ew39⟩ : ∃ w : Int32, Int64.toInt32 w38 = w := ⟨_, rfl⟩
  refine go_l2i (v := w39) rfl ew39 ?_
  refine go_sipush (v := 255) rfl (by decide) ?_
  refine go_b2 (v := w39 &&& 255) rfl rfl (fun _ => rfl) rfl ?_
  refine go_ias rfl (by rw [← ehk37, ab_rd_other (by decide)]; exact rk36_91) (by decide) (by decide) ?_
  generalize upd f35 (Int32.toNatClampNeg 7) (w39 &&& 255) = f40
  obtain ⟨hk41, ehk41⟩ : ∃ q, ab_wr hk37 91 (.inl (0, 240, .inl f40)) = q := ⟨_, rfl⟩
  have zk41 : hk41.1 = 120 := by rw [← ehk41]; exact zk37
  have xk41 : p1_Y g hk41 := by rw [← ehk41]; exact xk37.wr (by decide) _
  have rk41_91 : ab_rd hk41 91 = some (.inl (0, 240, .inl f40)) := by rw [← ehk41]; exact ab_rd_self (by rw [zk37]; decide)
  suffices hz : ab_go 999 ab_M_X10_feed 40 [(3, .int 0), (0, .ref 82), (1, .long v)] [] hk41 _ by rw [← ehk41] at hz; exact hz
  refine go_s (pc' := 41) (lv' := [(3, .int 0), (0, .ref 82), (1, .long v)]) (st' := [.ref 82]) rfl rfl rfl ?_
  refine go_s (pc' := 42) (lv' := [(3, .int 0), (0, .ref 82), (1, .long v)]) (st' := [.ref 82, .ref 82]) rfl rfl rfl ?_
  refine go_get (v := .int 7) rfl (by rw [← ehk41, ab_rd_other (by decide)]; exact rk37_82) rfl ?_
  refine go_iconst (v := 1) rfl (by decide) ?_
  refine go_b2 (v := 8) rfl rfl (fun _ => rfl) (by decide) ?_
  refine go_put (v := .int 8) rfl (by rw [← ehk41, ab_rd_other (by decide)]; exact rk37_82) (Nat.le_of_ble_eq_true rfl) (by decide) ?_
  obtain ⟨hk42, ehk42⟩ : ∃ q, ab_wr hk41 82 (.inr (10, [.int 0, .ref 83, .ref 84, .int 0, .ref 85, .ref 86, .ref 87, .ref 88, .ref 89, .ref 90, .int 0, .int 0, .ref 91, .int 8, .int 0, .int 0, .int 0, .int 0, .int 0, .int 0, .int 0, .int 0, .ref 92, .ref 93, .int 0, .ref 94, .ref 95, .ref 96, .ref 97, .ref 98, .int 0, .int 0, .int 0, .int 0, .ref 99, .ref 100, .ref 101, .int 0, .ref 102, .int 0, .int 0, .int 0, .int 0, .int 0, .int 0, .int 0, .int 0, .long 0, .long 0, .int 0, .ref 103, .ref 104, .ref 105, .ref 106, .ref 107, .ref 108, .ref 109, .int 0, .int 0, .ref 110, .ref 111, .ref 112, .ref 113, .ref 114, .int 0, .ref 115, .ref 116, .ref 117, .ref 118, .ref 119])) = q := ⟨_, rfl⟩
  have zk42 : hk42.1 = 120 := by rw [← ehk42]; exact zk41
  have xk42 : p1_Y g hk42 := by rw [← ehk42]; exact xk41.wr (by decide) _
  have rk42_82 : ab_rd hk42 82 = some (.inr (10, [.int 0, .ref 83, .ref 84, .int 0, .ref 85, .ref 86, .ref 87, .ref 88, .ref 89, .ref 90, .int 0, .int 0, .ref 91, .int 8, .int 0, .int 0, .int 0, .int 0, .int 0, .int 0, .int 0, .int 0, .ref 92, .ref 93, .int 0, .ref 94, .ref 95, .ref 96, .ref 97, .ref 98, .int 0, .int 0, .int 0, .int 0, .ref 99, .ref 100, .ref 101, .int 0, .ref 102, .int 0, .int 0, .int 0, .int 0, .int 0, .int 0, .int 0, .int 0, .long 0, .long 0, .int 0, .ref 103, .ref 104, .ref 105, .ref 106, .ref 107, .ref 108, .ref 109, .int 0, .int 0, .ref 110, .ref 111, .ref 112, .ref 113, .ref 114, .int 0, .ref 115, .ref 116, .ref 117, .ref 118, .ref 119])) := by rw [← ehk42]; exact ab_rd_self (by rw [zk41]; decide)
  suffices hz : ab_go 999 ab_M_X10_feed 50 [(3, .int 0), (0, .ref 82), (1, .long v)] [] hk42 _ by rw [← ehk42] at hz; exact hz
  refine go_s (pc' := 53) (lv' := [(3, .int (-8)), (0, .ref 82), (1, .long v)]) (st' := []) rfl rfl rfl ?_
  refine go_goto (tgt := 19) rfl (by decide) ?_
  refine go_s (pc' := 20) (lv' := [(3, .int (-8)), (0, .ref 82), (1, .long v)]) (st' := [.int (-8)]) rfl rfl rfl ?_
  refine go_ift (tgt := 56) rfl (by decide) (by decide) ?_
  refine go_s (pc' := 57) (lv' := [(3, .int (-8)), (0, .ref 82), (1, .long v)]) (st' := [.ref 82]) rfl rfl rfl ?_
  refine go_get (v := .int 8) rfl (rk42_82) rfl ?_
  refine go_ri rfl rfl ?_
  exact ⟨rfl, xk42⟩
set_option maxHeartbeats 16000000 in
set_option maxRecDepth 20000 in
theorem m_end {g : ab_H} (q : ab_sim p1_Sm p1_Hm g) (n : Int32) : ab_go 999 ab_M_X10_end 0 [(0, .ref 82), (1, .int n)] [] g (fun r g' => r = some (.int (an_end n)) ∧ p1_Y g g') := by
  have hz : g.1 = 120 := q.1.symm
  have x0 : p1_Y g g := ⟨q.1.symm, q.2.1.symm, rfl⟩
  refine go_s (pc' := 1) (lv' := [(0, .ref 82), (1, .int n)]) (st' := [.int n]) rfl rfl rfl ?_
  refine go_i2l (v := Int32.toInt64 n) rfl rfl ?_
  refine go_lconst (v := 0) rfl (by decide) ?_
  refine go_s (pc' := 4) (lv' := [(0, .ref 82), (1, .int n)]) (st' := [.ref 82, .long 0, .long (Int32.toInt64 n)]) rfl rfl rfl ?_
  refine go_get (v := .int 0) rfl (ab_fo q p1_o_p1_Hm_82 (by decide)) rfl ?_
  refine go_i2l (v := 0) rfl (by decide) ?_
  refine go_cc rfl rfl rfl (lv0 := [(0, .long (Int32.toInt64 n)), (2, .long 0), (4, .long 0)]) rfl ?_
  refine go_s (pc' := 1) (lv' := [(0, .long (Int32.toInt64 n)), (2, .long 0), (4, .long 0)]) (st' := [.long (Int32.toInt64 n)]) rfl rfl rfl ?_
  refine go_s (pc' := 2) (lv' := [(0, .long (Int32.toInt64 n)), (2, .long 0), (4, .long 0)]) (st' := [.long 0, .long (Int32.toInt64 n)]) rfl rfl rfl ?_
  refine go_lc (v := lg_cmp (Int32.toInt64 n) 0) rfl rfl ?_
  refine go_ifl (tgt := 17) rfl (by decide) (fun c => ?_) (fun c => ?_)
  ·
    have c1 : n.toInt < 0 := by first | exact c | (rw [Int32.toInt_toInt64] at c; exact c) | (rw [Int32.toInt_toInt64, Int32.toInt_toInt64] at c; exact c)
    refine go_iconst (v := 0) rfl (by decide) ?_
    refine go_rz rfl rfl (by decide) ?_
    show ab_go 999 ab_M_X10_end 11 [(0, .ref 82), (1, .int n)] [.int 0] g _
    refine go_iff rfl (by decide) ?_
    refine go_iconst (v := (-1)) rfl (by decide) ?_
    refine go_ri rfl rfl ?_
    exact ⟨(by unfold an_end; first | (rw [if_pos (by omega)]; done) | (rw [if_neg (by omega)]; done) | (rw [if_neg (by omega), if_pos (by omega)]; done) | (rw [if_neg (by omega), if_neg (by omega)]; done) | (rw [if_pos (by omega), if_pos (by omega)]; done) | (rw [if_pos (by omega), if_neg (by omega)]; done) | decide | (simp; omega)), x0⟩
  ·
    have c2 : ¬ n.toInt < 0 := by first | exact c | (rw [Int32.toInt_toInt64] at c; exact c) | (rw [Int32.toInt_toInt64, Int32.toInt_toInt64] at c; exact c)
    refine go_s (pc' := 7) (lv' := [(0, .long (Int32.toInt64 n)), (2, .long 0), (4, .long 0)]) (st' := [.long (Int32.toInt64 n)]) rfl rfl rfl ?_
    refine go_s (pc' := 9) (lv' := [(0, .long (Int32.toInt64 n)), (2, .long 0), (4, .long 0)]) (st' := [.long 0, .long (Int32.toInt64 n)]) rfl rfl rfl ?_
    refine go_lc (v := lg_cmp (Int32.toInt64 n) 0) rfl rfl ?_
    refine go_ifl (tgt := 17) rfl (by decide) (fun c => ?_) (fun c => ?_)
    ·
      have c3 : 0 < n.toInt := by first | exact c | (rw [Int32.toInt_toInt64] at c; exact c) | (rw [Int32.toInt_toInt64, Int32.toInt_toInt64] at c; exact c)
      refine go_iconst (v := 0) rfl (by decide) ?_
      refine go_rz rfl rfl (by decide) ?_
      show ab_go 999 ab_M_X10_end 11 [(0, .ref 82), (1, .int n)] [.int 0] g _
      refine go_iff rfl (by decide) ?_
      refine go_iconst (v := (-1)) rfl (by decide) ?_
      refine go_ri rfl rfl ?_
      exact ⟨(by unfold an_end; first | (rw [if_pos (by omega)]; done) | (rw [if_neg (by omega)]; done) | (rw [if_neg (by omega), if_pos (by omega)]; done) | (rw [if_neg (by omega), if_neg (by omega)]; done) | (rw [if_pos (by omega), if_pos (by omega)]; done) | (rw [if_pos (by omega), if_neg (by omega)]; done) | decide | (simp; omega)), x0⟩
    ·
      have c4 : ¬ 0 < n.toInt := by first | exact c | (rw [Int32.toInt_toInt64] at c; exact c) | (rw [Int32.toInt_toInt64, Int32.toInt_toInt64] at c; exact c)
      refine go_iconst (v := 1) rfl (by decide) ?_
      refine go_goto (tgt := 18) rfl (by decide) ?_
      refine go_rz rfl rfl (by decide) ?_
      show ab_go 999 ab_M_X10_end 11 [(0, .ref 82), (1, .int n)] [.int 1] g _
      refine go_ift (tgt := 16) rfl (by decide) (by decide) ?_
      refine go_s (pc' := 17) (lv' := [(0, .ref 82), (1, .int n)]) (st' := [.ref 82]) rfl rfl rfl ?_
      refine go_get (v := .int 0) rfl (ab_fo q p1_o_p1_Hm_82 (by decide)) rfl ?_
      refine go_s (pc' := 21) (lv' := [(2, .int 0), (0, .ref 82), (1, .int n)]) (st' := []) rfl rfl rfl ?_
      refine go_s (pc' := 22) (lv' := [(2, .int 0), (0, .ref 82), (1, .int n)]) (st' := [.ref 82]) rfl rfl rfl ?_
      refine go_s (pc' := 23) (lv' := [(2, .int 0), (0, .ref 82), (1, .int n)]) (st' := [.int n, .ref 82]) rfl rfl rfl ?_
      refine go_put (v := .int n) rfl (ab_fo q p1_o_p1_Hm_82 (by decide)) (Nat.le_of_ble_eq_true rfl) (ab_fit_i _) ?_
      obtain ⟨hk5, ehk5⟩ : ∃ q, ab_wr g 82 (.inr (10, [.int 0, .ref 83, .ref 84, .int 0, .ref 85, .ref 86, .ref 87, .ref 88, .ref 89, .ref 90, .int 0, .int 0, .ref 91, .int n, .int 0, .int 0, .int 0, .int 0, .int 0, .int 0, .int 0, .int 0, .ref 92, .ref 93, .int 0, .ref 94, .ref 95, .ref 96, .ref 97, .ref 98, .int 0, .int 0, .int 0, .int 0, .ref 99, .ref 100, .ref 101, .int 0, .ref 102, .int 0, .int 0, .int 0, .int 0, .int 0, .int 0, .int 0, .int 0, .long 0, .long 0, .int 0, .ref 103, .ref 104, .ref 105, .ref 106, .ref 107, .ref 108, .ref 109, .int 0, .int 0, .ref 110, .ref 111, .ref 112, .ref 113, .ref 114, .int 0, .ref 115, .ref 116, .ref 117, .ref 118, .ref 119])) = q := ⟨_, rfl⟩
      have zk5 : hk5.1 = 120 := by rw [← ehk5]; exact hz
      have xk5 : p1_Y g hk5 := by rw [← ehk5]; exact x0.wr (by decide) _
      have rk5_82 : ab_rd hk5 82 = some (.inr (10, [.int 0, .ref 83, .ref 84, .int 0, .ref 85, .ref 86, .ref 87, .ref 88, .ref 89, .ref 90, .int 0, .int 0, .ref 91, .int n, .int 0, .int 0, .int 0, .int 0, .int 0, .int 0, .int 0, .int 0, .ref 92, .ref 93, .int 0, .ref 94, .ref 95, .ref 96, .ref 97, .ref 98, .int 0, .int 0, .int 0, .int 0, .ref 99, .ref 100, .ref 101, .int 0, .ref 102, .int 0, .int 0, .int 0, .int 0, .int 0, .int 0, .int 0, .int 0, .long 0, .long 0, .int 0, .ref 103, .ref 104, .ref 105, .ref 106, .ref 107, .ref 108, .ref 109, .int 0, .int 0, .ref 110, .ref 111, .ref 112, .ref 113, .ref 114, .int 0, .ref 115, .ref 116, .ref 117, .ref 118, .ref 119])) := by rw [← ehk5]; exact ab_rd_self (by rw [hz]; decide)
      suffices hz : ab_go 999 ab_M_X10_end 26 [(2, .int 0), (0, .ref 82), (1, .int n)] [] hk5 _ by rw [← ehk5] at hz; exact hz
      refine go_s (pc' := 27) (lv' := [(2, .int 0), (0, .ref 82), (1, .int n)]) (st' := [.int 0]) rfl rfl rfl ?_
      refine go_ri rfl rfl ?_
      exact ⟨(by unfold an_end; first | (rw [if_pos (by omega)]; done) | (rw [if_neg (by omega)]; done) | (rw [if_neg (by omega), if_pos (by omega)]; done) | (rw [if_neg (by omega), if_neg (by omega)]; done) | (rw [if_pos (by omega), if_pos (by omega)]; done) | (rw [if_pos (by omega), if_neg (by omega)]; done) | decide | (simp; omega)), xk5⟩
set_option maxHeartbeats 16000000 in
set_option maxRecDepth 20000 in
theorem m_text {g : ab_H} (q : ab_sim p1_Sm p1_Hm g) : ab_go 999 ab_M_X10_text 0 [(0, .ref 82)] [] g (fun r g' => r = some (.int 0) ∧ p1_Y g g') := by
  have x0 : p1_Y g g := ⟨q.1.symm, q.2.1.symm, rfl⟩
  obtain ⟨n, r, hF, hx, hr, z, w0, q1, f0⟩ := go_sim p1_R22 q
  exact ⟨n, r, hF, hx, hr, x0.next f0 z w0⟩
set_option maxHeartbeats 16000000 in
set_option maxRecDepth 20000 in
theorem m_fault {g : ab_H} (q : ab_sim p1_Sm p1_Hm g) : ab_go 999 ab_M_X10_fault 0 [(0, .ref 82)] [] g (fun r g' => r = some (.int 0) ∧ p1_Y g g') := by
  have x0 : p1_Y g g := ⟨q.1.symm, q.2.1.symm, rfl⟩
  obtain ⟨n, r, hF, hx, hr, z, w0, q1, f0⟩ := go_sim p1_R23 q
  exact ⟨n, r, hF, hx, hr, x0.next f0 z w0⟩
set_option maxHeartbeats 16000000 in
set_option maxRecDepth 20000 in
theorem m_wire {g : ab_H} (q : ab_sim p1_Sm p1_Hm g) (w : Int32) (what : Int32) : ab_go 999 ab_M_X10_wire 0 [(0, .ref 82), (1, .int w), (2, .int what)] [] g (fun r g' => r = some (.int (-1)) ∧ p1_Y g g') := by
  have hz : g.1 = 120 := q.1.symm
  have x0 : p1_Y g g := ⟨q.1.symm, q.2.1.symm, rfl⟩
  refine go_s (pc' := 1) (lv' := [(0, .ref 82), (1, .int w), (2, .int what)]) (st' := [.ref 82]) rfl rfl rfl ?_
  refine go_s (pc' := 2) (lv' := [(0, .ref 82), (1, .int w), (2, .int what)]) (st' := [.int w, .ref 82]) rfl rfl rfl ?_
  refine go_cc rfl rfl (ab_cal_v (As := [.int w]) (rest := []) rfl rfl rfl (ab_fo q p1_o_p1_Hm_82 (by decide)) rfl rfl rfl rfl) (lv0 := [(0, .ref 82), (1, .int w)]) rfl ?_
  refine go_s (pc' := 1) (lv' := [(0, .ref 82), (1, .int w)]) (st' := [.int w]) rfl rfl rfl ?_
  refine go_i2l (v := Int32.toInt64 w) rfl rfl ?_
  refine go_lconst (v := 0) rfl (by decide) ?_
  refine go_s (pc' := 4) (lv' := [(0, .ref 82), (1, .int w)]) (st' := [.ref 82, .long 0, .long (Int32.toInt64 w)]) rfl rfl rfl ?_
  refine go_get (v := .int 0) rfl (ab_fo q p1_o_p1_Hm_82 (by decide)) rfl ?_
  refine go_iconst (v := 1) rfl (by decide) ?_
  refine go_b2 (v := (-1)) rfl rfl (fun _ => rfl) (by decide) ?_
  refine go_i2l (v := (-1)) rfl (by decide) ?_
  refine go_cc rfl rfl rfl (lv0 := [(0, .long (Int32.toInt64 w)), (2, .long 0), (4, .long (-1))]) rfl ?_
  refine go_s (pc' := 1) (lv' := [(0, .long (Int32.toInt64 w)), (2, .long 0), (4, .long (-1))]) (st' := [.long (Int32.toInt64 w)]) rfl rfl rfl ?_
  refine go_s (pc' := 2) (lv' := [(0, .long (Int32.toInt64 w)), (2, .long 0), (4, .long (-1))]) (st' := [.long 0, .long (Int32.toInt64 w)]) rfl rfl rfl ?_
  refine go_lc (v := lg_cmp (Int32.toInt64 w) 0) rfl rfl ?_
  refine go_ifl (tgt := 17) rfl (by decide) (fun c => ?_) (fun c => ?_)
  ·
    have c1 : w.toInt < 0 := by first | exact c | (rw [Int32.toInt_toInt64] at c; exact c) | (rw [Int32.toInt_toInt64, Int32.toInt_toInt64] at c; exact c)
    refine go_iconst (v := 0) rfl (by decide) ?_
    refine go_rz rfl rfl (by decide) ?_
    show ab_go 998 ab_M_X10_isWire 13 [(0, .ref 82), (1, .int w)] [.int 0] g _
    refine go_rz rfl rfl (by decide) ?_
    show ab_go 999 ab_M_X10_wire 5 [(0, .ref 82), (1, .int w), (2, .int what)] [.int 0] g _
    refine go_iff rfl (by decide) ?_
    refine go_iconst (v := (-1)) rfl (by decide) ?_
    refine go_ri rfl rfl ?_
    exact ⟨rfl, x0⟩
  ·
    have c2 : ¬ w.toInt < 0 := by first | exact c | (rw [Int32.toInt_toInt64] at c; exact c) | (rw [Int32.toInt_toInt64, Int32.toInt_toInt64] at c; exact c)
    refine go_s (pc' := 7) (lv' := [(0, .long (Int32.toInt64 w)), (2, .long 0), (4, .long (-1))]) (st' := [.long (Int32.toInt64 w)]) rfl rfl rfl ?_
    refine go_s (pc' := 9) (lv' := [(0, .long (Int32.toInt64 w)), (2, .long 0), (4, .long (-1))]) (st' := [.long (-1), .long (Int32.toInt64 w)]) rfl rfl rfl ?_
    refine go_lc (v := lg_cmp (Int32.toInt64 w) (-1)) rfl rfl ?_
    refine go_ifl (tgt := 17) rfl (by decide) (fun c => ?_) (fun c => ?_)
    ·
      have c3 : (-1) < w.toInt := by first | exact c | (rw [Int32.toInt_toInt64] at c; exact c) | (rw [Int32.toInt_toInt64, Int32.toInt_toInt64] at c; exact c)
      refine go_iconst (v := 0) rfl (by decide) ?_
      refine go_rz rfl rfl (by decide) ?_
      show ab_go 998 ab_M_X10_isWire 13 [(0, .ref 82), (1, .int w)] [.int 0] g _
      refine go_rz rfl rfl (by decide) ?_
      show ab_go 999 ab_M_X10_wire 5 [(0, .ref 82), (1, .int w), (2, .int what)] [.int 0] g _
      refine go_iff rfl (by decide) ?_
      refine go_iconst (v := (-1)) rfl (by decide) ?_
      refine go_ri rfl rfl ?_
      exact ⟨rfl, x0⟩
    ·
      have c4 : ¬ (-1) < w.toInt := by first | exact c | (rw [Int32.toInt_toInt64] at c; exact c) | (rw [Int32.toInt_toInt64, Int32.toInt_toInt64] at c; exact c)
      exfalso; omega
set_option maxHeartbeats 16000000 in
set_option maxRecDepth 20000 in
theorem m_event {g : ab_H} (q : ab_sim p1_Sm p1_Hm g) (e : Int32) (what : Int32) : ab_go 999 ab_M_X10_event 0 [(0, .ref 82), (1, .int e), (2, .int what)] [] g (fun r g' => r = some (.int (-1)) ∧ p1_Y g g') := by
  have hz : g.1 = 120 := q.1.symm
  have x0 : p1_Y g g := ⟨q.1.symm, q.2.1.symm, rfl⟩
  refine go_s (pc' := 1) (lv' := [(0, .ref 82), (1, .int e), (2, .int what)]) (st' := [.ref 82]) rfl rfl rfl ?_
  refine go_s (pc' := 2) (lv' := [(0, .ref 82), (1, .int e), (2, .int what)]) (st' := [.int e, .ref 82]) rfl rfl rfl ?_
  refine go_cc rfl rfl (ab_cal_v (As := [.int e]) (rest := []) rfl rfl rfl (ab_fo q p1_o_p1_Hm_82 (by decide)) rfl rfl rfl rfl) (lv0 := [(0, .ref 82), (1, .int e)]) rfl ?_
  refine go_s (pc' := 1) (lv' := [(0, .ref 82), (1, .int e)]) (st' := [.int e]) rfl rfl rfl ?_
  refine go_i2l (v := Int32.toInt64 e) rfl rfl ?_
  refine go_lconst (v := 0) rfl (by decide) ?_
  refine go_s (pc' := 4) (lv' := [(0, .ref 82), (1, .int e)]) (st' := [.ref 82, .long 0, .long (Int32.toInt64 e)]) rfl rfl rfl ?_
  refine go_get (v := .int 0) rfl (ab_fo q p1_o_p1_Hm_82 (by decide)) rfl ?_
  refine go_iconst (v := 1) rfl (by decide) ?_
  refine go_b2 (v := (-1)) rfl rfl (fun _ => rfl) (by decide) ?_
  refine go_i2l (v := (-1)) rfl (by decide) ?_
  refine go_cc rfl rfl rfl (lv0 := [(0, .long (Int32.toInt64 e)), (2, .long 0), (4, .long (-1))]) rfl ?_
  refine go_s (pc' := 1) (lv' := [(0, .long (Int32.toInt64 e)), (2, .long 0), (4, .long (-1))]) (st' := [.long (Int32.toInt64 e)]) rfl rfl rfl ?_
  refine go_s (pc' := 2) (lv' := [(0, .long (Int32.toInt64 e)), (2, .long 0), (4, .long (-1))]) (st' := [.long 0, .long (Int32.toInt64 e)]) rfl rfl rfl ?_
  refine go_lc (v := lg_cmp (Int32.toInt64 e) 0) rfl rfl ?_
  refine go_ifl (tgt := 17) rfl (by decide) (fun c => ?_) (fun c => ?_)
  ·
    have c1 : e.toInt < 0 := by first | exact c | (rw [Int32.toInt_toInt64] at c; exact c) | (rw [Int32.toInt_toInt64, Int32.toInt_toInt64] at c; exact c)
    refine go_iconst (v := 0) rfl (by decide) ?_
    refine go_rz rfl rfl (by decide) ?_
    show ab_go 998 ab_M_X10_isEvent 13 [(0, .ref 82), (1, .int e)] [.int 0] g _
    refine go_rz rfl rfl (by decide) ?_
    show ab_go 999 ab_M_X10_event 5 [(0, .ref 82), (1, .int e), (2, .int what)] [.int 0] g _
    refine go_iff rfl (by decide) ?_
    refine go_iconst (v := (-1)) rfl (by decide) ?_
    refine go_ri rfl rfl ?_
    exact ⟨rfl, x0⟩
  ·
    have c2 : ¬ e.toInt < 0 := by first | exact c | (rw [Int32.toInt_toInt64] at c; exact c) | (rw [Int32.toInt_toInt64, Int32.toInt_toInt64] at c; exact c)
    refine go_s (pc' := 7) (lv' := [(0, .long (Int32.toInt64 e)), (2, .long 0), (4, .long (-1))]) (st' := [.long (Int32.toInt64 e)]) rfl rfl rfl ?_
    refine go_s (pc' := 9) (lv' := [(0, .long (Int32.toInt64 e)), (2, .long 0), (4, .long (-1))]) (st' := [.long (-1), .long (Int32.toInt64 e)]) rfl rfl rfl ?_
    refine go_lc (v := lg_cmp (Int32.toInt64 e) (-1)) rfl rfl ?_
    refine go_ifl (tgt := 17) rfl (by decide) (fun c => ?_) (fun c => ?_)
    ·
      have c3 : (-1) < e.toInt := by first | exact c | (rw [Int32.toInt_toInt64] at c; exact c) | (rw [Int32.toInt_toInt64, Int32.toInt_toInt64] at c; exact c)
      refine go_iconst (v := 0) rfl (by decide) ?_
      refine go_rz rfl rfl (by decide) ?_
      show ab_go 998 ab_M_X10_isEvent 13 [(0, .ref 82), (1, .int e)] [.int 0] g _
      refine go_rz rfl rfl (by decide) ?_
      show ab_go 999 ab_M_X10_event 5 [(0, .ref 82), (1, .int e), (2, .int what)] [.int 0] g _
      refine go_iff rfl (by decide) ?_
      refine go_iconst (v := (-1)) rfl (by decide) ?_
      refine go_ri rfl rfl ?_
      exact ⟨rfl, x0⟩
    ·
      have c4 : ¬ (-1) < e.toInt := by first | exact c | (rw [Int32.toInt_toInt64] at c; exact c) | (rw [Int32.toInt_toInt64, Int32.toInt_toInt64] at c; exact c)
      exfalso; omega
set_option maxHeartbeats 16000000 in
set_option maxRecDepth 20000 in
theorem m_place {g : ab_H} (q : ab_sim p1_Sm p1_Hm g) (k : Int32) (what : Int32) : ab_go 999 ab_M_X10_place 0 [(0, .ref 82), (1, .int k), (2, .int what)] [] g (fun r g' => r = some (.int (-1)) ∧ p1_Y g g') := by
  have hz : g.1 = 120 := q.1.symm
  have x0 : p1_Y g g := ⟨q.1.symm, q.2.1.symm, rfl⟩
  refine go_s (pc' := 1) (lv' := [(0, .ref 82), (1, .int k), (2, .int what)]) (st' := [.int k]) rfl rfl rfl ?_
  refine go_i2l (v := Int32.toInt64 k) rfl rfl ?_
  refine go_lconst (v := 0) rfl (by decide) ?_
  refine go_s (pc' := 4) (lv' := [(0, .ref 82), (1, .int k), (2, .int what)]) (st' := [.ref 82, .long 0, .long (Int32.toInt64 k)]) rfl rfl rfl ?_
  refine go_get (v := .int 0) rfl (ab_fo q p1_o_p1_Hm_82 (by decide)) rfl ?_
  refine go_iconst (v := 1) rfl (by decide) ?_
  refine go_b2 (v := (-1)) rfl rfl (fun _ => rfl) (by decide) ?_
  refine go_i2l (v := (-1)) rfl (by decide) ?_
  refine go_cc rfl rfl rfl (lv0 := [(0, .long (Int32.toInt64 k)), (2, .long 0), (4, .long (-1))]) rfl ?_
  refine go_s (pc' := 1) (lv' := [(0, .long (Int32.toInt64 k)), (2, .long 0), (4, .long (-1))]) (st' := [.long (Int32.toInt64 k)]) rfl rfl rfl ?_
  refine go_s (pc' := 2) (lv' := [(0, .long (Int32.toInt64 k)), (2, .long 0), (4, .long (-1))]) (st' := [.long 0, .long (Int32.toInt64 k)]) rfl rfl rfl ?_
  refine go_lc (v := lg_cmp (Int32.toInt64 k) 0) rfl rfl ?_
  refine go_ifl (tgt := 17) rfl (by decide) (fun c => ?_) (fun c => ?_)
  ·
    have c1 : k.toInt < 0 := by first | exact c | (rw [Int32.toInt_toInt64] at c; exact c) | (rw [Int32.toInt_toInt64, Int32.toInt_toInt64] at c; exact c)
    refine go_iconst (v := 0) rfl (by decide) ?_
    refine go_rz rfl rfl (by decide) ?_
    show ab_go 999 ab_M_X10_place 13 [(0, .ref 82), (1, .int k), (2, .int what)] [.int 0] g _
    refine go_iff rfl (by decide) ?_
    refine go_iconst (v := (-1)) rfl (by decide) ?_
    refine go_ri rfl rfl ?_
    exact ⟨rfl, x0⟩
  ·
    have c2 : ¬ k.toInt < 0 := by first | exact c | (rw [Int32.toInt_toInt64] at c; exact c) | (rw [Int32.toInt_toInt64, Int32.toInt_toInt64] at c; exact c)
    refine go_s (pc' := 7) (lv' := [(0, .long (Int32.toInt64 k)), (2, .long 0), (4, .long (-1))]) (st' := [.long (Int32.toInt64 k)]) rfl rfl rfl ?_
    refine go_s (pc' := 9) (lv' := [(0, .long (Int32.toInt64 k)), (2, .long 0), (4, .long (-1))]) (st' := [.long (-1), .long (Int32.toInt64 k)]) rfl rfl rfl ?_
    refine go_lc (v := lg_cmp (Int32.toInt64 k) (-1)) rfl rfl ?_
    refine go_ifl (tgt := 17) rfl (by decide) (fun c => ?_) (fun c => ?_)
    ·
      have c3 : (-1) < k.toInt := by first | exact c | (rw [Int32.toInt_toInt64] at c; exact c) | (rw [Int32.toInt_toInt64, Int32.toInt_toInt64] at c; exact c)
      refine go_iconst (v := 0) rfl (by decide) ?_
      refine go_rz rfl rfl (by decide) ?_
      show ab_go 999 ab_M_X10_place 13 [(0, .ref 82), (1, .int k), (2, .int what)] [.int 0] g _
      refine go_iff rfl (by decide) ?_
      refine go_iconst (v := (-1)) rfl (by decide) ?_
      refine go_ri rfl rfl ?_
      exact ⟨rfl, x0⟩
    ·
      have c4 : ¬ (-1) < k.toInt := by first | exact c | (rw [Int32.toInt_toInt64] at c; exact c) | (rw [Int32.toInt_toInt64, Int32.toInt_toInt64] at c; exact c)
      exfalso; omega
set_option maxHeartbeats 16000000 in
set_option maxRecDepth 20000 in
theorem m_states {g : ab_H} (q : ab_sim p1_Sm p1_Hm g) : ab_go 999 ab_M_X10_states 0 [(0, .ref 82)] [] g (fun r g' => r = some (.int 1) ∧ p1_Y g g') := by
  have x0 : p1_Y g g := ⟨q.1.symm, q.2.1.symm, rfl⟩
  obtain ⟨n, r, hF, hx, hr, z, w0, q1, f0⟩ := go_sim p1_R24 q
  exact ⟨n, r, hF, hx, hr, x0.next f0 z w0⟩
set_option maxHeartbeats 16000000 in
set_option maxRecDepth 20000 in
theorem m_right {g : ab_H} (q : ab_sim p1_Sm p1_Hm g) : ab_go 999 ab_M_X10_right 0 [(0, .ref 82)] [] g (fun r g' => r = some (.int 1) ∧ p1_Y g g') := by
  have x0 : p1_Y g g := ⟨q.1.symm, q.2.1.symm, rfl⟩
  obtain ⟨n, r, hF, hx, hr, z, w0, q1, f0⟩ := go_sim p1_R25 q
  exact ⟨n, r, hF, hx, hr, x0.next f0 z w0⟩
set_option maxHeartbeats 16000000 in
set_option maxRecDepth 20000 in
theorem m_of {g : ab_H} (q : ab_sim p1_Sm p1_Hm g) (s : Int32) (w : Int32) : ab_go 999 ab_M_X10_of 0 [(0, .ref 82), (1, .int s), (2, .int w)] [] g (fun r g' => r = some (.int (an_of s w)) ∧ p1_Y g g') := by
  have hz : g.1 = 120 := q.1.symm
  have x0 : p1_Y g g := ⟨q.1.symm, q.2.1.symm, rfl⟩
  refine go_s (pc' := 1) (lv' := [(0, .ref 82), (1, .int s), (2, .int w)]) (st' := [.ref 82]) rfl rfl rfl ?_
  refine go_c rfl rfl (ab_cal_v (As := []) (rest := []) rfl rfl rfl (ab_fo q p1_o_p1_Hm_82 (by decide)) rfl rfl rfl rfl) (lv0 := [(0, .ref 82)]) rfl (go_sim p1_R26 q) (fun r0 g1 hr => ?_)
  obtain ⟨rfl, z4, w0, q2, f0⟩ := hr
  have x3 := x0.next f0 z4 w0
  show ab_go 999 ab_M_X10_of 4 [(0, .ref 82), (1, .int s), (2, .int w)] [.int 1] g1 _
  refine go_s (pc' := 5) (lv' := [(0, .ref 82), (1, .int s), (2, .int w)]) (st' := []) rfl rfl rfl ?_
  refine go_s (pc' := 6) (lv' := [(0, .ref 82), (1, .int s), (2, .int w)]) (st' := [.ref 82]) rfl rfl rfl ?_
  refine go_get (v := .int 1) rfl (ab_fo q2 p1_o_p1_C26_82 (by decide)) rfl ?_
  refine go_iconst (v := 1) rfl (by decide) ?_
  refine go_icf rfl (by decide) ?_
  refine go_s (pc' := 14) (lv' := [(0, .ref 82), (1, .int s), (2, .int w)]) (st' := [.int s]) rfl rfl rfl ?_
  refine go_i2l (v := Int32.toInt64 s) rfl rfl ?_
  refine go_lconst (v := 0) rfl (by decide) ?_
  refine go_s (pc' := 17) (lv' := [(0, .ref 82), (1, .int s), (2, .int w)]) (st' := [.ref 82, .long 0, .long (Int32.toInt64 s)]) rfl rfl rfl ?_
  refine go_get (v := .int 1) rfl (ab_fo q2 p1_o_p1_C26_82 (by decide)) rfl ?_
  refine go_iconst (v := 1) rfl (by decide) ?_
  refine go_b2 (v := 0) rfl rfl (fun _ => rfl) (by decide) ?_
  refine go_i2l (v := 0) rfl (by decide) ?_
  refine go_cc rfl rfl rfl (lv0 := [(0, .long (Int32.toInt64 s)), (2, .long 0), (4, .long 0)]) rfl ?_
  refine go_s (pc' := 1) (lv' := [(0, .long (Int32.toInt64 s)), (2, .long 0), (4, .long 0)]) (st' := [.long (Int32.toInt64 s)]) rfl rfl rfl ?_
  refine go_s (pc' := 2) (lv' := [(0, .long (Int32.toInt64 s)), (2, .long 0), (4, .long 0)]) (st' := [.long 0, .long (Int32.toInt64 s)]) rfl rfl rfl ?_
  refine go_lc (v := lg_cmp (Int32.toInt64 s) 0) rfl rfl ?_
  refine go_ifl (tgt := 17) rfl (by decide) (fun c => ?_) (fun c => ?_)
  ·
    have c5 : s.toInt < 0 := by first | exact c | (rw [Int32.toInt_toInt64] at c; exact c) | (rw [Int32.toInt_toInt64, Int32.toInt_toInt64] at c; exact c)
    refine go_iconst (v := 0) rfl (by decide) ?_
    refine go_rz rfl rfl (by decide) ?_
    show ab_go 999 ab_M_X10_of 26 [(0, .ref 82), (1, .int s), (2, .int w)] [.int 0] g1 _
    refine go_ift (tgt := 60) rfl (by decide) (by decide) ?_
    refine go_iconst (v := (-1)) rfl (by decide) ?_
    refine go_ri rfl rfl ?_
    exact ⟨(by unfold an_of; first | (rw [if_pos (by omega)]; done) | (rw [if_neg (by omega)]; done) | (rw [if_neg (by omega), if_pos (by omega)]; done) | (rw [if_neg (by omega), if_neg (by omega)]; done) | (rw [if_pos (by omega), if_pos (by omega)]; done) | (rw [if_pos (by omega), if_neg (by omega)]; done) | decide | (simp; omega)), x3⟩
  ·
    have c6 : ¬ s.toInt < 0 := by first | exact c | (rw [Int32.toInt_toInt64] at c; exact c) | (rw [Int32.toInt_toInt64, Int32.toInt_toInt64] at c; exact c)
    refine go_s (pc' := 7) (lv' := [(0, .long (Int32.toInt64 s)), (2, .long 0), (4, .long 0)]) (st' := [.long (Int32.toInt64 s)]) rfl rfl rfl ?_
    refine go_s (pc' := 9) (lv' := [(0, .long (Int32.toInt64 s)), (2, .long 0), (4, .long 0)]) (st' := [.long 0, .long (Int32.toInt64 s)]) rfl rfl rfl ?_
    refine go_lc (v := lg_cmp (Int32.toInt64 s) 0) rfl rfl ?_
    refine go_ifl (tgt := 17) rfl (by decide) (fun c => ?_) (fun c => ?_)
    ·
      have c7 : 0 < s.toInt := by first | exact c | (rw [Int32.toInt_toInt64] at c; exact c) | (rw [Int32.toInt_toInt64, Int32.toInt_toInt64] at c; exact c)
      refine go_iconst (v := 0) rfl (by decide) ?_
      refine go_rz rfl rfl (by decide) ?_
      show ab_go 999 ab_M_X10_of 26 [(0, .ref 82), (1, .int s), (2, .int w)] [.int 0] g1 _
      refine go_ift (tgt := 60) rfl (by decide) (by decide) ?_
      refine go_iconst (v := (-1)) rfl (by decide) ?_
      refine go_ri rfl rfl ?_
      exact ⟨(by unfold an_of; first | (rw [if_pos (by omega)]; done) | (rw [if_neg (by omega)]; done) | (rw [if_neg (by omega), if_pos (by omega)]; done) | (rw [if_neg (by omega), if_neg (by omega)]; done) | (rw [if_pos (by omega), if_pos (by omega)]; done) | (rw [if_pos (by omega), if_neg (by omega)]; done) | decide | (simp; omega)), x3⟩
    ·
      have c8 : ¬ 0 < s.toInt := by first | exact c | (rw [Int32.toInt_toInt64] at c; exact c) | (rw [Int32.toInt_toInt64, Int32.toInt_toInt64] at c; exact c)
      refine go_iconst (v := 1) rfl (by decide) ?_
      refine go_goto (tgt := 18) rfl (by decide) ?_
      refine go_rz rfl rfl (by decide) ?_
      show ab_go 999 ab_M_X10_of 26 [(0, .ref 82), (1, .int s), (2, .int w)] [.int 1] g1 _
      refine go_iff rfl (by decide) ?_
      refine go_s (pc' := 30) (lv' := [(0, .ref 82), (1, .int s), (2, .int w)]) (st' := [.int w]) rfl rfl rfl ?_
      refine go_i2l (v := Int32.toInt64 w) rfl rfl ?_
      refine go_lconst (v := 0) rfl (by decide) ?_
      refine go_ldc2 (v := 4) rfl (by decide) ?_
      refine go_cc rfl rfl rfl (lv0 := [(0, .long (Int32.toInt64 w)), (2, .long 0), (4, .long 4)]) rfl ?_
      refine go_s (pc' := 1) (lv' := [(0, .long (Int32.toInt64 w)), (2, .long 0), (4, .long 4)]) (st' := [.long (Int32.toInt64 w)]) rfl rfl rfl ?_
      refine go_s (pc' := 2) (lv' := [(0, .long (Int32.toInt64 w)), (2, .long 0), (4, .long 4)]) (st' := [.long 0, .long (Int32.toInt64 w)]) rfl rfl rfl ?_
      refine go_lc (v := lg_cmp (Int32.toInt64 w) 0) rfl rfl ?_
      refine go_ifl (tgt := 17) rfl (by decide) (fun c => ?_) (fun c => ?_)
      ·
        have c9 : w.toInt < 0 := by first | exact c | (rw [Int32.toInt_toInt64] at c; exact c) | (rw [Int32.toInt_toInt64, Int32.toInt_toInt64] at c; exact c)
        refine go_iconst (v := 0) rfl (by decide) ?_
        refine go_rz rfl rfl (by decide) ?_
        show ab_go 999 ab_M_X10_of 38 [(0, .ref 82), (1, .int s), (2, .int w)] [.int 0] g1 _
        refine go_iff rfl (by decide) ?_
        refine go_s (pc' := 42) (lv' := [(0, .ref 82), (1, .int s), (2, .int w)]) (st' := [.int w]) rfl rfl rfl ?_
        refine go_i2l (v := Int32.toInt64 w) rfl rfl ?_
        refine go_ldc2 (v := 10) rfl (by decide) ?_
        refine go_bipush (v := 9) rfl (by decide) ?_
        refine go_s (pc' := 49) (lv' := [(0, .ref 82), (1, .int s), (2, .int w)]) (st' := [.ref 82, .int 9, .long 10, .long (Int32.toInt64 w)]) rfl rfl rfl ?_
        refine go_get (v := .int 0) rfl (ab_fo q2 p1_o_p1_C26_82 (by decide)) rfl ?_
        refine go_b2 (v := 9) rfl rfl (fun _ => rfl) (by decide) ?_
        refine go_i2l (v := 9) rfl (by decide) ?_
        refine go_cc rfl rfl rfl (lv0 := [(0, .long (Int32.toInt64 w)), (2, .long 10), (4, .long 9)]) rfl ?_
        refine go_s (pc' := 1) (lv' := [(0, .long (Int32.toInt64 w)), (2, .long 10), (4, .long 9)]) (st' := [.long (Int32.toInt64 w)]) rfl rfl rfl ?_
        refine go_s (pc' := 2) (lv' := [(0, .long (Int32.toInt64 w)), (2, .long 10), (4, .long 9)]) (st' := [.long 10, .long (Int32.toInt64 w)]) rfl rfl rfl ?_
        refine go_lc (v := lg_cmp (Int32.toInt64 w) 10) rfl rfl ?_
        refine go_ifl (tgt := 17) rfl (by decide) (fun c => ?_) (fun c => ?_)
        ·
          have c10 : w.toInt < 10 := by first | exact c | (rw [Int32.toInt_toInt64] at c; exact c) | (rw [Int32.toInt_toInt64, Int32.toInt_toInt64] at c; exact c)
          refine go_iconst (v := 0) rfl (by decide) ?_
          refine go_rz rfl rfl (by decide) ?_
          show ab_go 999 ab_M_X10_of 57 [(0, .ref 82), (1, .int s), (2, .int w)] [.int 0] g1 _
          refine go_iff rfl (by decide) ?_
          refine go_iconst (v := (-1)) rfl (by decide) ?_
          refine go_ri rfl rfl ?_
          exact ⟨(by unfold an_of; first | (rw [if_pos (by omega)]; done) | (rw [if_neg (by omega)]; done) | (rw [if_neg (by omega), if_pos (by omega)]; done) | (rw [if_neg (by omega), if_neg (by omega)]; done) | (rw [if_pos (by omega), if_pos (by omega)]; done) | (rw [if_pos (by omega), if_neg (by omega)]; done) | decide | (simp; omega)), x3⟩
        ·
          have c11 : ¬ w.toInt < 10 := by first | exact c | (rw [Int32.toInt_toInt64] at c; exact c) | (rw [Int32.toInt_toInt64, Int32.toInt_toInt64] at c; exact c)
          exfalso; omega
      ·
        have c12 : ¬ w.toInt < 0 := by first | exact c | (rw [Int32.toInt_toInt64] at c; exact c) | (rw [Int32.toInt_toInt64, Int32.toInt_toInt64] at c; exact c)
        refine go_s (pc' := 7) (lv' := [(0, .long (Int32.toInt64 w)), (2, .long 0), (4, .long 4)]) (st' := [.long (Int32.toInt64 w)]) rfl rfl rfl ?_
        refine go_s (pc' := 9) (lv' := [(0, .long (Int32.toInt64 w)), (2, .long 0), (4, .long 4)]) (st' := [.long 4, .long (Int32.toInt64 w)]) rfl rfl rfl ?_
        refine go_lc (v := lg_cmp (Int32.toInt64 w) 4) rfl rfl ?_
        refine go_ifl (tgt := 17) rfl (by decide) (fun c => ?_) (fun c => ?_)
        ·
          have c13 : 4 < w.toInt := by first | exact c | (rw [Int32.toInt_toInt64] at c; exact c) | (rw [Int32.toInt_toInt64, Int32.toInt_toInt64] at c; exact c)
          refine go_iconst (v := 0) rfl (by decide) ?_
          refine go_rz rfl rfl (by decide) ?_
          show ab_go 999 ab_M_X10_of 38 [(0, .ref 82), (1, .int s), (2, .int w)] [.int 0] g1 _
          refine go_iff rfl (by decide) ?_
          refine go_s (pc' := 42) (lv' := [(0, .ref 82), (1, .int s), (2, .int w)]) (st' := [.int w]) rfl rfl rfl ?_
          refine go_i2l (v := Int32.toInt64 w) rfl rfl ?_
          refine go_ldc2 (v := 10) rfl (by decide) ?_
          refine go_bipush (v := 9) rfl (by decide) ?_
          refine go_s (pc' := 49) (lv' := [(0, .ref 82), (1, .int s), (2, .int w)]) (st' := [.ref 82, .int 9, .long 10, .long (Int32.toInt64 w)]) rfl rfl rfl ?_
          refine go_get (v := .int 0) rfl (ab_fo q2 p1_o_p1_C26_82 (by decide)) rfl ?_
          refine go_b2 (v := 9) rfl rfl (fun _ => rfl) (by decide) ?_
          refine go_i2l (v := 9) rfl (by decide) ?_
          refine go_cc rfl rfl rfl (lv0 := [(0, .long (Int32.toInt64 w)), (2, .long 10), (4, .long 9)]) rfl ?_
          refine go_s (pc' := 1) (lv' := [(0, .long (Int32.toInt64 w)), (2, .long 10), (4, .long 9)]) (st' := [.long (Int32.toInt64 w)]) rfl rfl rfl ?_
          refine go_s (pc' := 2) (lv' := [(0, .long (Int32.toInt64 w)), (2, .long 10), (4, .long 9)]) (st' := [.long 10, .long (Int32.toInt64 w)]) rfl rfl rfl ?_
          refine go_lc (v := lg_cmp (Int32.toInt64 w) 10) rfl rfl ?_
          refine go_ifl (tgt := 17) rfl (by decide) (fun c => ?_) (fun c => ?_)
          ·
            have c14 : w.toInt < 10 := by first | exact c | (rw [Int32.toInt_toInt64] at c; exact c) | (rw [Int32.toInt_toInt64, Int32.toInt_toInt64] at c; exact c)
            refine go_iconst (v := 0) rfl (by decide) ?_
            refine go_rz rfl rfl (by decide) ?_
            show ab_go 999 ab_M_X10_of 57 [(0, .ref 82), (1, .int s), (2, .int w)] [.int 0] g1 _
            refine go_iff rfl (by decide) ?_
            refine go_iconst (v := (-1)) rfl (by decide) ?_
            refine go_ri rfl rfl ?_
            exact ⟨(by unfold an_of; first | (rw [if_pos (by omega)]; done) | (rw [if_neg (by omega)]; done) | (rw [if_neg (by omega), if_pos (by omega)]; done) | (rw [if_neg (by omega), if_neg (by omega)]; done) | (rw [if_pos (by omega), if_pos (by omega)]; done) | (rw [if_pos (by omega), if_neg (by omega)]; done) | decide | (simp; omega)), x3⟩
          ·
            have c15 : ¬ w.toInt < 10 := by first | exact c | (rw [Int32.toInt_toInt64] at c; exact c) | (rw [Int32.toInt_toInt64, Int32.toInt_toInt64] at c; exact c)
            refine go_s (pc' := 7) (lv' := [(0, .long (Int32.toInt64 w)), (2, .long 10), (4, .long 9)]) (st' := [.long (Int32.toInt64 w)]) rfl rfl rfl ?_
            refine go_s (pc' := 9) (lv' := [(0, .long (Int32.toInt64 w)), (2, .long 10), (4, .long 9)]) (st' := [.long 9, .long (Int32.toInt64 w)]) rfl rfl rfl ?_
            refine go_lc (v := lg_cmp (Int32.toInt64 w) 9) rfl rfl ?_
            refine go_ifl (tgt := 17) rfl (by decide) (fun c => ?_) (fun c => ?_)
            ·
              have c16 : 9 < w.toInt := by first | exact c | (rw [Int32.toInt_toInt64] at c; exact c) | (rw [Int32.toInt_toInt64, Int32.toInt_toInt64] at c; exact c)
              refine go_iconst (v := 0) rfl (by decide) ?_
              refine go_rz rfl rfl (by decide) ?_
              show ab_go 999 ab_M_X10_of 57 [(0, .ref 82), (1, .int s), (2, .int w)] [.int 0] g1 _
              refine go_iff rfl (by decide) ?_
              refine go_iconst (v := (-1)) rfl (by decide) ?_
              refine go_ri rfl rfl ?_
              exact ⟨(by unfold an_of; first | (rw [if_pos (by omega)]; done) | (rw [if_neg (by omega)]; done) | (rw [if_neg (by omega), if_pos (by omega)]; done) | (rw [if_neg (by omega), if_neg (by omega)]; done) | (rw [if_pos (by omega), if_pos (by omega)]; done) | (rw [if_pos (by omega), if_neg (by omega)]; done) | decide | (simp; omega)), x3⟩
            ·
              have c17 : ¬ 9 < w.toInt := by first | exact c | (rw [Int32.toInt_toInt64] at c; exact c) | (rw [Int32.toInt_toInt64, Int32.toInt_toInt64] at c; exact c)
              exfalso; omega
        ·
          have c18 : ¬ 4 < w.toInt := by first | exact c | (rw [Int32.toInt_toInt64] at c; exact c) | (rw [Int32.toInt_toInt64, Int32.toInt_toInt64] at c; exact c)
          refine go_iconst (v := 1) rfl (by decide) ?_
          refine go_goto (tgt := 18) rfl (by decide) ?_
          refine go_rz rfl rfl (by decide) ?_
          show ab_go 999 ab_M_X10_of 38 [(0, .ref 82), (1, .int s), (2, .int w)] [.int 1] g1 _
          refine go_ift (tgt := 62) rfl (by decide) (by decide) ?_
          refine go_s (pc' := 63) (lv' := [(0, .ref 82), (1, .int s), (2, .int w)]) (st' := [.int w]) rfl rfl rfl ?_
          refine go_i2l (v := Int32.toInt64 w) rfl rfl ?_
          refine go_ldc2 (v := 2) rfl (by decide) ?_
          refine go_ldc2 (v := 4) rfl (by decide) ?_
          refine go_cc rfl rfl rfl (lv0 := [(0, .long (Int32.toInt64 w)), (2, .long 2), (4, .long 4)]) rfl ?_
          refine go_s (pc' := 1) (lv' := [(0, .long (Int32.toInt64 w)), (2, .long 2), (4, .long 4)]) (st' := [.long (Int32.toInt64 w)]) rfl rfl rfl ?_
          refine go_s (pc' := 2) (lv' := [(0, .long (Int32.toInt64 w)), (2, .long 2), (4, .long 4)]) (st' := [.long 2, .long (Int32.toInt64 w)]) rfl rfl rfl ?_
          refine go_lc (v := lg_cmp (Int32.toInt64 w) 2) rfl rfl ?_
          refine go_ifl (tgt := 17) rfl (by decide) (fun c => ?_) (fun c => ?_)
          ·
            have c19 : w.toInt < 2 := by first | exact c | (rw [Int32.toInt_toInt64] at c; exact c) | (rw [Int32.toInt_toInt64, Int32.toInt_toInt64] at c; exact c)
            refine go_iconst (v := 0) rfl (by decide) ?_
            refine go_rz rfl rfl (by decide) ?_
            show ab_go 999 ab_M_X10_of 73 [(0, .ref 82), (1, .int s), (2, .int w)] [.int 0] g1 _
            refine go_ift (tgt := 86) rfl (by decide) (by decide) ?_
            refine go_s (pc' := 87) (lv' := [(0, .ref 82), (1, .int s), (2, .int w)]) (st' := [.int w]) rfl rfl rfl ?_
            refine go_if (tgt := 99) rfl (by decide) (fun c => ?_) (fun c => ?_)
            ·
              have c20 : ¬ w.toInt = 0 := c
              refine go_s (pc' := 100) (lv' := [(0, .ref 82), (1, .int s), (2, .int w)]) (st' := [.int w]) rfl rfl rfl ?_
              refine go_iconst (v := 1) rfl (by decide) ?_
              refine go_ic (tgt := 112) rfl (by decide) (fun c => ?_) (fun c => ?_)
              ·
                have c21 : ¬ w.toInt = 1 := c
                exfalso; omega
              ·
                have c22 : ¬ (¬ w.toInt = 1) := c
                refine go_s (pc' := 105) (lv' := [(0, .ref 82), (1, .int s), (2, .int w)]) (st' := [.ref 82]) rfl rfl rfl ?_
                refine go_s (pc' := 106) (lv' := [(0, .ref 82), (1, .int s), (2, .int w)]) (st' := [.int s, .ref 82]) rfl rfl rfl ?_
                refine go_cc rfl rfl (ab_cal_v (As := [.int s]) (rest := []) rfl rfl rfl (ab_fo q2 p1_o_p1_C26_82 (by decide)) rfl rfl rfl rfl) (lv0 := [(0, .ref 82), (1, .int s)]) rfl ?_
                refine go_iconst (v := 0) rfl (by decide) ?_
                refine go_s (pc' := 2) (lv' := [(2, .int 0), (0, .ref 82), (1, .int s)]) (st' := []) rfl rfl rfl ?_
                refine go_iconst (v := 0) rfl (by decide) ?_
                refine go_s (pc' := 4) (lv' := [(3, .int 0), (2, .int 0), (0, .ref 82), (1, .int s)]) (st' := []) rfl rfl rfl ?_
                refine go_s (pc' := 5) (lv' := [(3, .int 0), (2, .int 0), (0, .ref 82), (1, .int s)]) (st' := [.int 0]) rfl rfl rfl ?_
                refine go_s (pc' := 6) (lv' := [(3, .int 0), (2, .int 0), (0, .ref 82), (1, .int s)]) (st' := [.ref 82, .int 0]) rfl rfl rfl ?_
                refine go_get (v := .int 0) rfl (ab_fo q2 p1_o_p1_C26_82 (by decide)) rfl ?_
                refine go_ict (tgt := 44) rfl (by decide) (by decide) ?_
                refine go_s (pc' := 45) (lv' := [(3, .int 0), (2, .int 0), (0, .ref 82), (1, .int s)]) (st' := [.int 0]) rfl rfl rfl ?_
                refine go_ri rfl rfl ?_
                show ab_go 999 ab_M_X10_of 109 [(0, .ref 82), (1, .int s), (2, .int w)] [.int 0] g1 _
                refine go_goto (tgt := 166) rfl (by decide) ?_
                refine go_ri rfl rfl ?_
                exact ⟨(by unfold an_of; first | (rw [if_pos (by omega)]; done) | (rw [if_neg (by omega)]; done) | (rw [if_neg (by omega), if_pos (by omega)]; done) | (rw [if_neg (by omega), if_neg (by omega)]; done) | (rw [if_pos (by omega), if_pos (by omega)]; done) | (rw [if_pos (by omega), if_neg (by omega)]; done) | decide | (simp; omega)), x3⟩
            ·
              have c23 : ¬ (¬ w.toInt = 0) := c
              refine go_s (pc' := 91) (lv' := [(0, .ref 82), (1, .int s), (2, .int w)]) (st' := [.ref 82]) rfl rfl rfl ?_
              refine go_get (v := .ref 99) rfl (ab_fo q2 p1_o_p1_C26_82 (by decide)) rfl ?_
              refine go_s (pc' := 95) (lv' := [(0, .ref 82), (1, .int s), (2, .int w)]) (st' := [.int s, .ref 99]) rfl rfl rfl ?_
              obtain rfl : s = 0 := ab_i0 0 (by have e : (0 : Int32).toInt = 0 := rfl; omega)
              obtain ⟨f24, h25, vh25⟩ := ab_fa q2 p1_a_p1_C26_99_0
              refine go_ial (v := 0) rfl h25 (by decide) vh25 ?_
              refine go_goto (tgt := 166) rfl (by decide) ?_
              refine go_ri rfl rfl ?_
              exact ⟨(by unfold an_of; first | (rw [if_pos (by omega)]; done) | (rw [if_neg (by omega)]; done) | (rw [if_neg (by omega), if_pos (by omega)]; done) | (rw [if_neg (by omega), if_neg (by omega)]; done) | (rw [if_pos (by omega), if_pos (by omega)]; done) | (rw [if_pos (by omega), if_neg (by omega)]; done) | decide | (simp; omega)), x3⟩
          ·
            have c26 : ¬ w.toInt < 2 := by first | exact c | (rw [Int32.toInt_toInt64] at c; exact c) | (rw [Int32.toInt_toInt64, Int32.toInt_toInt64] at c; exact c)
            refine go_s (pc' := 7) (lv' := [(0, .long (Int32.toInt64 w)), (2, .long 2), (4, .long 4)]) (st' := [.long (Int32.toInt64 w)]) rfl rfl rfl ?_
            refine go_s (pc' := 9) (lv' := [(0, .long (Int32.toInt64 w)), (2, .long 2), (4, .long 4)]) (st' := [.long 4, .long (Int32.toInt64 w)]) rfl rfl rfl ?_
            refine go_lc (v := lg_cmp (Int32.toInt64 w) 4) rfl rfl ?_
            refine go_ifl (tgt := 17) rfl (by decide) (fun c => ?_) (fun c => ?_)
            ·
              have c27 : 4 < w.toInt := by first | exact c | (rw [Int32.toInt_toInt64] at c; exact c) | (rw [Int32.toInt_toInt64, Int32.toInt_toInt64] at c; exact c)
              exfalso; omega
            ·
              have c28 : ¬ 4 < w.toInt := by first | exact c | (rw [Int32.toInt_toInt64] at c; exact c) | (rw [Int32.toInt_toInt64, Int32.toInt_toInt64] at c; exact c)
              refine go_iconst (v := 1) rfl (by decide) ?_
              refine go_goto (tgt := 18) rfl (by decide) ?_
              refine go_rz rfl rfl (by decide) ?_
              show ab_go 999 ab_M_X10_of 73 [(0, .ref 82), (1, .int s), (2, .int w)] [.int 1] g1 _
              refine go_iff rfl (by decide) ?_
              refine go_s (pc' := 77) (lv' := [(0, .ref 82), (1, .int s), (2, .int w)]) (st' := [.ref 82]) rfl rfl rfl ?_
              refine go_get (v := .int 1) rfl (ab_fo q2 p1_o_p1_C26_82 (by decide)) rfl ?_
              refine go_ift (tgt := 86) rfl (by decide) (by decide) ?_
              refine go_s (pc' := 87) (lv' := [(0, .ref 82), (1, .int s), (2, .int w)]) (st' := [.int w]) rfl rfl rfl ?_
              refine go_if (tgt := 99) rfl (by decide) (fun c => ?_) (fun c => ?_)
              ·
                have c29 : ¬ w.toInt = 0 := c
                refine go_s (pc' := 100) (lv' := [(0, .ref 82), (1, .int s), (2, .int w)]) (st' := [.int w]) rfl rfl rfl ?_
                refine go_iconst (v := 1) rfl (by decide) ?_
                refine go_ic (tgt := 112) rfl (by decide) (fun c => ?_) (fun c => ?_)
                ·
                  have c30 : ¬ w.toInt = 1 := c
                  refine go_s (pc' := 113) (lv' := [(0, .ref 82), (1, .int s), (2, .int w)]) (st' := [.int w]) rfl rfl rfl ?_
                  refine go_iconst (v := 2) rfl (by decide) ?_
                  refine go_ic (tgt := 126) rfl (by decide) (fun c => ?_) (fun c => ?_)
                  ·
                    have c31 : ¬ w.toInt = 2 := c
                    refine go_s (pc' := 127) (lv' := [(0, .ref 82), (1, .int s), (2, .int w)]) (st' := [.int w]) rfl rfl rfl ?_
                    refine go_iconst (v := 3) rfl (by decide) ?_
                    refine go_ic (tgt := 139) rfl (by decide) (fun c => ?_) (fun c => ?_)
                    ·
                      have c32 : ¬ w.toInt = 3 := c
                      refine go_s (pc' := 140) (lv' := [(0, .ref 82), (1, .int s), (2, .int w)]) (st' := [.int w]) rfl rfl rfl ?_
                      refine go_iconst (v := 4) rfl (by decide) ?_
                      refine go_ic (tgt := 152) rfl (by decide) (fun c => ?_) (fun c => ?_)
                      ·
                        have c33 : ¬ w.toInt = 4 := c
                        exfalso; omega
                      ·
                        have c34 : ¬ (¬ w.toInt = 4) := c
                        refine go_s (pc' := 145) (lv' := [(0, .ref 82), (1, .int s), (2, .int w)]) (st' := [.ref 82]) rfl rfl rfl ?_
                        refine go_s (pc' := 146) (lv' := [(0, .ref 82), (1, .int s), (2, .int w)]) (st' := [.int s, .ref 82]) rfl rfl rfl ?_
                        refine go_cc rfl rfl (ab_cal_v (As := [.int s]) (rest := []) rfl rfl rfl (ab_fo q2 p1_o_p1_C26_82 (by decide)) rfl rfl rfl rfl) (lv0 := [(0, .ref 82), (1, .int s)]) rfl ?_
                        refine go_s (pc' := 1) (lv' := [(0, .ref 82), (1, .int s)]) (st' := [.ref 82]) rfl rfl rfl ?_
                        refine go_get (v := .ref 101) rfl (ab_fo q2 p1_o_p1_C26_82 (by decide)) rfl ?_
                        refine go_s (pc' := 5) (lv' := [(0, .ref 82), (1, .int s)]) (st' := [.int s, .ref 101]) rfl rfl rfl ?_
                        obtain rfl : s = 0 := ab_i0 0 (by have e : (0 : Int32).toInt = 0 := rfl; omega)
                        obtain ⟨f35, h36, vh36⟩ := ab_fa q2 p1_a_p1_C26_101_0
                        refine go_ial (v := 0) rfl h36 (by decide) vh36 ?_
                        refine go_s (pc' := 7) (lv' := [(0, .ref 82), (1, .int 0)]) (st' := [.ref 82, .int 0]) rfl rfl rfl ?_
                        refine go_s (pc' := 8) (lv' := [(0, .ref 82), (1, .int 0)]) (st' := [.int 0, .ref 82, .int 0]) rfl rfl rfl ?_
                        refine go_c rfl rfl (ab_cal_v (As := [.int 0]) (rest := [.int 0]) rfl rfl rfl (ab_fo q2 p1_o_p1_C26_82 (by decide)) rfl rfl rfl rfl) (lv0 := [(0, .ref 82), (1, .int 0)]) rfl (go_sim p1_R27 q2) (fun r0 g37 hr => ?_)
                        obtain ⟨rfl, z40, w0, q38, f0⟩ := hr
                        have x39 := x3.next f0 z40 w0
                        show ab_go 998 ab_M_X10_aims 11 [(0, .ref 82), (1, .int 0)] [.int 0, .int 0] g37 _
                        refine go_b2 (v := 0) rfl rfl (fun _ => rfl) (by decide) ?_
                        refine go_ri rfl rfl ?_
                        show ab_go 999 ab_M_X10_of 149 [(0, .ref 82), (1, .int 0), (2, .int w)] [.int 0] g37 _
                        refine go_goto (tgt := 166) rfl (by decide) ?_
                        refine go_ri rfl rfl ?_
                        exact ⟨(by unfold an_of; first | (rw [if_pos (by omega)]; done) | (rw [if_neg (by omega)]; done) | (rw [if_neg (by omega), if_pos (by omega)]; done) | (rw [if_neg (by omega), if_neg (by omega)]; done) | (rw [if_pos (by omega), if_pos (by omega)]; done) | (rw [if_pos (by omega), if_neg (by omega)]; done) | decide | (simp; omega)), x39⟩
                    ·
                      have c41 : ¬ (¬ w.toInt = 3) := c
                      refine go_s (pc' := 132) (lv' := [(0, .ref 82), (1, .int s), (2, .int w)]) (st' := [.ref 82]) rfl rfl rfl ?_
                      refine go_s (pc' := 133) (lv' := [(0, .ref 82), (1, .int s), (2, .int w)]) (st' := [.int s, .ref 82]) rfl rfl rfl ?_
                      refine go_cc rfl rfl (ab_cal_v (As := [.int s]) (rest := []) rfl rfl rfl (ab_fo q2 p1_o_p1_C26_82 (by decide)) rfl rfl rfl rfl) (lv0 := [(0, .ref 82), (1, .int s)]) rfl ?_
                      refine go_iconst (v := 0) rfl (by decide) ?_
                      refine go_s (pc' := 2) (lv' := [(2, .int 0), (0, .ref 82), (1, .int s)]) (st' := []) rfl rfl rfl ?_
                      refine go_iconst (v := 0) rfl (by decide) ?_
                      refine go_s (pc' := 4) (lv' := [(3, .int 0), (2, .int 0), (0, .ref 82), (1, .int s)]) (st' := []) rfl rfl rfl ?_
                      refine go_s (pc' := 5) (lv' := [(3, .int 0), (2, .int 0), (0, .ref 82), (1, .int s)]) (st' := [.int 0]) rfl rfl rfl ?_
                      refine go_s (pc' := 6) (lv' := [(3, .int 0), (2, .int 0), (0, .ref 82), (1, .int s)]) (st' := [.ref 82, .int 0]) rfl rfl rfl ?_
                      refine go_get (v := .int 0) rfl (ab_fo q2 p1_o_p1_C26_82 (by decide)) rfl ?_
                      refine go_ict (tgt := 49) rfl (by decide) (by decide) ?_
                      refine go_s (pc' := 50) (lv' := [(3, .int 0), (2, .int 0), (0, .ref 82), (1, .int s)]) (st' := [.int 0]) rfl rfl rfl ?_
                      refine go_ri rfl rfl ?_
                      show ab_go 999 ab_M_X10_of 136 [(0, .ref 82), (1, .int s), (2, .int w)] [.int 0] g1 _
                      refine go_goto (tgt := 166) rfl (by decide) ?_
                      refine go_ri rfl rfl ?_
                      exact ⟨(by unfold an_of; first | (rw [if_pos (by omega)]; done) | (rw [if_neg (by omega)]; done) | (rw [if_neg (by omega), if_pos (by omega)]; done) | (rw [if_neg (by omega), if_neg (by omega)]; done) | (rw [if_pos (by omega), if_pos (by omega)]; done) | (rw [if_pos (by omega), if_neg (by omega)]; done) | decide | (simp; omega)), x3⟩
                  ·
                    have c42 : ¬ (¬ w.toInt = 2) := c
                    refine go_s (pc' := 118) (lv' := [(0, .ref 82), (1, .int s), (2, .int w)]) (st' := [.ref 82]) rfl rfl rfl ?_
                    refine go_get (v := .ref 101) rfl (ab_fo q2 p1_o_p1_C26_82 (by decide)) rfl ?_
                    refine go_s (pc' := 122) (lv' := [(0, .ref 82), (1, .int s), (2, .int w)]) (st' := [.int s, .ref 101]) rfl rfl rfl ?_
                    obtain rfl : s = 0 := ab_i0 0 (by have e : (0 : Int32).toInt = 0 := rfl; omega)
                    obtain ⟨f43, h44, vh44⟩ := ab_fa q2 p1_a_p1_C26_101_0
                    refine go_ial (v := 0) rfl h44 (by decide) vh44 ?_
                    refine go_goto (tgt := 166) rfl (by decide) ?_
                    refine go_ri rfl rfl ?_
                    exact ⟨(by unfold an_of; first | (rw [if_pos (by omega)]; done) | (rw [if_neg (by omega)]; done) | (rw [if_neg (by omega), if_pos (by omega)]; done) | (rw [if_neg (by omega), if_neg (by omega)]; done) | (rw [if_pos (by omega), if_pos (by omega)]; done) | (rw [if_pos (by omega), if_neg (by omega)]; done) | decide | (simp; omega)), x3⟩
                ·
                  have c45 : ¬ (¬ w.toInt = 1) := c
                  exfalso; omega
              ·
                have c46 : ¬ (¬ w.toInt = 0) := c
                exfalso; omega
set_option maxHeartbeats 16000000 in
set_option maxRecDepth 20000 in
theorem m_quarrels {g : ab_H} (q : ab_sim p1_Sm p1_Hm g) (w : Int32) : ab_go 999 ab_M_X10_quarrels 0 [(0, .ref 82), (1, .int w)] [] g (fun r g' => r = some (.int (an_quarrels w)) ∧ p1_Y g g') := by
  have hz : g.1 = 120 := q.1.symm
  have x0 : p1_Y g g := ⟨q.1.symm, q.2.1.symm, rfl⟩
  refine go_s (pc' := 1) (lv' := [(0, .ref 82), (1, .int w)]) (st' := [.int w]) rfl rfl rfl ?_
  refine go_i2l (v := Int32.toInt64 w) rfl rfl ?_
  refine go_lconst (v := 0) rfl (by decide) ?_
  refine go_ldc2 (v := 3) rfl (by decide) ?_
  refine go_cc rfl rfl rfl (lv0 := [(0, .long (Int32.toInt64 w)), (2, .long 0), (4, .long 3)]) rfl ?_
  refine go_s (pc' := 1) (lv' := [(0, .long (Int32.toInt64 w)), (2, .long 0), (4, .long 3)]) (st' := [.long (Int32.toInt64 w)]) rfl rfl rfl ?_
  refine go_s (pc' := 2) (lv' := [(0, .long (Int32.toInt64 w)), (2, .long 0), (4, .long 3)]) (st' := [.long 0, .long (Int32.toInt64 w)]) rfl rfl rfl ?_
  refine go_lc (v := lg_cmp (Int32.toInt64 w) 0) rfl rfl ?_
  refine go_ifl (tgt := 17) rfl (by decide) (fun c => ?_) (fun c => ?_)
  ·
    have c1 : w.toInt < 0 := by first | exact c | (rw [Int32.toInt_toInt64] at c; exact c) | (rw [Int32.toInt_toInt64, Int32.toInt_toInt64] at c; exact c)
    refine go_iconst (v := 0) rfl (by decide) ?_
    refine go_rz rfl rfl (by decide) ?_
    show ab_go 999 ab_M_X10_quarrels 9 [(0, .ref 82), (1, .int w)] [.int 0] g _
    refine go_iff rfl (by decide) ?_
    refine go_iconst (v := (-1)) rfl (by decide) ?_
    refine go_ri rfl rfl ?_
    exact ⟨(by unfold an_quarrels; first | (rw [if_pos (by omega)]; done) | (rw [if_neg (by omega)]; done) | (rw [if_neg (by omega), if_pos (by omega)]; done) | (rw [if_neg (by omega), if_neg (by omega)]; done) | (rw [if_pos (by omega), if_pos (by omega)]; done) | (rw [if_pos (by omega), if_neg (by omega)]; done) | decide | (simp; omega)), x0⟩
  ·
    have c2 : ¬ w.toInt < 0 := by first | exact c | (rw [Int32.toInt_toInt64] at c; exact c) | (rw [Int32.toInt_toInt64, Int32.toInt_toInt64] at c; exact c)
    refine go_s (pc' := 7) (lv' := [(0, .long (Int32.toInt64 w)), (2, .long 0), (4, .long 3)]) (st' := [.long (Int32.toInt64 w)]) rfl rfl rfl ?_
    refine go_s (pc' := 9) (lv' := [(0, .long (Int32.toInt64 w)), (2, .long 0), (4, .long 3)]) (st' := [.long 3, .long (Int32.toInt64 w)]) rfl rfl rfl ?_
    refine go_lc (v := lg_cmp (Int32.toInt64 w) 3) rfl rfl ?_
    refine go_ifl (tgt := 17) rfl (by decide) (fun c => ?_) (fun c => ?_)
    ·
      have c3 : 3 < w.toInt := by first | exact c | (rw [Int32.toInt_toInt64] at c; exact c) | (rw [Int32.toInt_toInt64, Int32.toInt_toInt64] at c; exact c)
      refine go_iconst (v := 0) rfl (by decide) ?_
      refine go_rz rfl rfl (by decide) ?_
      show ab_go 999 ab_M_X10_quarrels 9 [(0, .ref 82), (1, .int w)] [.int 0] g _
      refine go_iff rfl (by decide) ?_
      refine go_iconst (v := (-1)) rfl (by decide) ?_
      refine go_ri rfl rfl ?_
      exact ⟨(by unfold an_quarrels; first | (rw [if_pos (by omega)]; done) | (rw [if_neg (by omega)]; done) | (rw [if_neg (by omega), if_pos (by omega)]; done) | (rw [if_neg (by omega), if_neg (by omega)]; done) | (rw [if_pos (by omega), if_pos (by omega)]; done) | (rw [if_pos (by omega), if_neg (by omega)]; done) | decide | (simp; omega)), x0⟩
    ·
      have c4 : ¬ 3 < w.toInt := by first | exact c | (rw [Int32.toInt_toInt64] at c; exact c) | (rw [Int32.toInt_toInt64, Int32.toInt_toInt64] at c; exact c)
      refine go_iconst (v := 1) rfl (by decide) ?_
      refine go_goto (tgt := 18) rfl (by decide) ?_
      refine go_rz rfl rfl (by decide) ?_
      show ab_go 999 ab_M_X10_quarrels 9 [(0, .ref 82), (1, .int w)] [.int 1] g _
      refine go_ift (tgt := 14) rfl (by decide) (by decide) ?_
      refine go_s (pc' := 15) (lv' := [(0, .ref 82), (1, .int w)]) (st' := [.ref 82]) rfl rfl rfl ?_
      refine go_c rfl rfl (ab_cal_v (As := []) (rest := []) rfl rfl rfl (ab_fo q p1_o_p1_Hm_82 (by decide)) rfl rfl rfl rfl) (lv0 := [(0, .ref 82)]) rfl (go_sim p1_R26 q) (fun r0 g5 hr => ?_)
      obtain ⟨rfl, z8, w0, q6, f0⟩ := hr
      have x7 := x0.next f0 z8 w0
      show ab_go 999 ab_M_X10_quarrels 18 [(0, .ref 82), (1, .int w)] [.int 1] g5 _
      refine go_ift (tgt := 24) rfl (by decide) (by decide) ?_
      refine go_s (pc' := 25) (lv' := [(0, .ref 82), (1, .int w)]) (st' := [.ref 82]) rfl rfl rfl ?_
      refine go_c rfl rfl (ab_cal_v (As := []) (rest := []) rfl rfl rfl (ab_fo q6 p1_o_p1_C26_82 (by decide)) rfl rfl rfl rfl) (lv0 := [(0, .ref 82)]) rfl (go_sim p1_R28 q6) (fun r0 g9 hr => ?_)
      obtain ⟨rfl, z12, w0, q10, f0⟩ := hr
      have x11 := x7.next f0 z12 w0
      show ab_go 999 ab_M_X10_quarrels 28 [(0, .ref 82), (1, .int w)] [] g9 _
      refine go_s (pc' := 29) (lv' := [(0, .ref 82), (1, .int w)]) (st' := [.int w]) rfl rfl rfl ?_
      refine go_if (tgt := 39) rfl (by decide) (fun c => ?_) (fun c => ?_)
      ·
        have c13 : ¬ w.toInt = 0 := c
        refine go_s (pc' := 40) (lv' := [(0, .ref 82), (1, .int w)]) (st' := [.int w]) rfl rfl rfl ?_
        refine go_iconst (v := 1) rfl (by decide) ?_
        refine go_ic (tgt := 51) rfl (by decide) (fun c => ?_) (fun c => ?_)
        ·
          have c14 : ¬ w.toInt = 1 := c
          refine go_s (pc' := 52) (lv' := [(0, .ref 82), (1, .int w)]) (st' := [.int w]) rfl rfl rfl ?_
          refine go_iconst (v := 2) rfl (by decide) ?_
          refine go_ic (tgt := 63) rfl (by decide) (fun c => ?_) (fun c => ?_)
          ·
            have c15 : ¬ w.toInt = 2 := c
            refine go_s (pc' := 64) (lv' := [(0, .ref 82), (1, .int w)]) (st' := [.ref 82]) rfl rfl rfl ?_
            refine go_get (v := .int (-4)) rfl (ab_fo q10 p1_o_p1_C28_82 (by decide)) rfl ?_
            refine go_ri rfl rfl ?_
            exact ⟨(by unfold an_quarrels; first | (rw [if_pos (by omega)]; done) | (rw [if_neg (by omega)]; done) | (rw [if_neg (by omega), if_pos (by omega)]; done) | (rw [if_neg (by omega), if_neg (by omega)]; done) | (rw [if_pos (by omega), if_pos (by omega)]; done) | (rw [if_pos (by omega), if_neg (by omega)]; done) | decide | (simp; omega)), x11⟩
          ·
            have c16 : ¬ (¬ w.toInt = 2) := c
            refine go_s (pc' := 57) (lv' := [(0, .ref 82), (1, .int w)]) (st' := [.ref 82]) rfl rfl rfl ?_
            refine go_get (v := .int (-4)) rfl (ab_fo q10 p1_o_p1_C28_82 (by decide)) rfl ?_
            refine go_goto (tgt := 67) rfl (by decide) ?_
            refine go_ri rfl rfl ?_
            exact ⟨(by unfold an_quarrels; first | (rw [if_pos (by omega)]; done) | (rw [if_neg (by omega)]; done) | (rw [if_neg (by omega), if_pos (by omega)]; done) | (rw [if_neg (by omega), if_neg (by omega)]; done) | (rw [if_pos (by omega), if_pos (by omega)]; done) | (rw [if_pos (by omega), if_neg (by omega)]; done) | decide | (simp; omega)), x11⟩
        ·
          have c17 : ¬ (¬ w.toInt = 1) := c
          refine go_s (pc' := 45) (lv' := [(0, .ref 82), (1, .int w)]) (st' := [.ref 82]) rfl rfl rfl ?_
          refine go_get (v := .int 0) rfl (ab_fo q10 p1_o_p1_C28_82 (by decide)) rfl ?_
          refine go_goto (tgt := 67) rfl (by decide) ?_
          refine go_ri rfl rfl ?_
          exact ⟨(by unfold an_quarrels; first | (rw [if_pos (by omega)]; done) | (rw [if_neg (by omega)]; done) | (rw [if_neg (by omega), if_pos (by omega)]; done) | (rw [if_neg (by omega), if_neg (by omega)]; done) | (rw [if_pos (by omega), if_pos (by omega)]; done) | (rw [if_pos (by omega), if_neg (by omega)]; done) | decide | (simp; omega)), x11⟩
      ·
        have c18 : ¬ (¬ w.toInt = 0) := c
        refine go_s (pc' := 33) (lv' := [(0, .ref 82), (1, .int w)]) (st' := [.ref 82]) rfl rfl rfl ?_
        refine go_get (v := .int 0) rfl (ab_fo q10 p1_o_p1_C28_82 (by decide)) rfl ?_
        refine go_goto (tgt := 67) rfl (by decide) ?_
        refine go_ri rfl rfl ?_
        exact ⟨(by unfold an_quarrels; first | (rw [if_pos (by omega)]; done) | (rw [if_neg (by omega)]; done) | (rw [if_neg (by omega), if_pos (by omega)]; done) | (rw [if_neg (by omega), if_neg (by omega)]; done) | (rw [if_pos (by omega), if_pos (by omega)]; done) | (rw [if_pos (by omega), if_neg (by omega)]; done) | decide | (simp; omega)), x11⟩
set_option maxHeartbeats 16000000 in
set_option maxRecDepth 20000 in
theorem m_back {g : ab_H} (q : ab_sim p1_Sm p1_Hm g) (w : Int32) : ab_go 999 ab_M_X10_back 0 [(0, .ref 82), (1, .int w)] [] g (fun r g' => r = some (.int (an_back w)) ∧ p1_Y g g') := by
  have hz : g.1 = 120 := q.1.symm
  have x0 : p1_Y g g := ⟨q.1.symm, q.2.1.symm, rfl⟩
  refine go_s (pc' := 1) (lv' := [(0, .ref 82), (1, .int w)]) (st' := [.int w]) rfl rfl rfl ?_
  refine go_i2l (v := Int32.toInt64 w) rfl rfl ?_
  refine go_lconst (v := 0) rfl (by decide) ?_
  refine go_ldc2 (v := 3) rfl (by decide) ?_
  refine go_cc rfl rfl rfl (lv0 := [(0, .long (Int32.toInt64 w)), (2, .long 0), (4, .long 3)]) rfl ?_
  refine go_s (pc' := 1) (lv' := [(0, .long (Int32.toInt64 w)), (2, .long 0), (4, .long 3)]) (st' := [.long (Int32.toInt64 w)]) rfl rfl rfl ?_
  refine go_s (pc' := 2) (lv' := [(0, .long (Int32.toInt64 w)), (2, .long 0), (4, .long 3)]) (st' := [.long 0, .long (Int32.toInt64 w)]) rfl rfl rfl ?_
  refine go_lc (v := lg_cmp (Int32.toInt64 w) 0) rfl rfl ?_
  refine go_ifl (tgt := 17) rfl (by decide) (fun c => ?_) (fun c => ?_)
  ·
    have c1 : w.toInt < 0 := by first | exact c | (rw [Int32.toInt_toInt64] at c; exact c) | (rw [Int32.toInt_toInt64, Int32.toInt_toInt64] at c; exact c)
    refine go_iconst (v := 0) rfl (by decide) ?_
    refine go_rz rfl rfl (by decide) ?_
    show ab_go 999 ab_M_X10_back 9 [(0, .ref 82), (1, .int w)] [.int 0] g _
    refine go_iff rfl (by decide) ?_
    refine go_iconst (v := (-1)) rfl (by decide) ?_
    refine go_ri rfl rfl ?_
    exact ⟨(by unfold an_back; first | (rw [if_pos (by omega)]; done) | (rw [if_neg (by omega)]; done) | (rw [if_neg (by omega), if_pos (by omega)]; done) | (rw [if_neg (by omega), if_neg (by omega)]; done) | (rw [if_pos (by omega), if_pos (by omega)]; done) | (rw [if_pos (by omega), if_neg (by omega)]; done) | decide | (simp; omega)), x0⟩
  ·
    have c2 : ¬ w.toInt < 0 := by first | exact c | (rw [Int32.toInt_toInt64] at c; exact c) | (rw [Int32.toInt_toInt64, Int32.toInt_toInt64] at c; exact c)
    refine go_s (pc' := 7) (lv' := [(0, .long (Int32.toInt64 w)), (2, .long 0), (4, .long 3)]) (st' := [.long (Int32.toInt64 w)]) rfl rfl rfl ?_
    refine go_s (pc' := 9) (lv' := [(0, .long (Int32.toInt64 w)), (2, .long 0), (4, .long 3)]) (st' := [.long 3, .long (Int32.toInt64 w)]) rfl rfl rfl ?_
    refine go_lc (v := lg_cmp (Int32.toInt64 w) 3) rfl rfl ?_
    refine go_ifl (tgt := 17) rfl (by decide) (fun c => ?_) (fun c => ?_)
    ·
      have c3 : 3 < w.toInt := by first | exact c | (rw [Int32.toInt_toInt64] at c; exact c) | (rw [Int32.toInt_toInt64, Int32.toInt_toInt64] at c; exact c)
      refine go_iconst (v := 0) rfl (by decide) ?_
      refine go_rz rfl rfl (by decide) ?_
      show ab_go 999 ab_M_X10_back 9 [(0, .ref 82), (1, .int w)] [.int 0] g _
      refine go_iff rfl (by decide) ?_
      refine go_iconst (v := (-1)) rfl (by decide) ?_
      refine go_ri rfl rfl ?_
      exact ⟨(by unfold an_back; first | (rw [if_pos (by omega)]; done) | (rw [if_neg (by omega)]; done) | (rw [if_neg (by omega), if_pos (by omega)]; done) | (rw [if_neg (by omega), if_neg (by omega)]; done) | (rw [if_pos (by omega), if_pos (by omega)]; done) | (rw [if_pos (by omega), if_neg (by omega)]; done) | decide | (simp; omega)), x0⟩
    ·
      have c4 : ¬ 3 < w.toInt := by first | exact c | (rw [Int32.toInt_toInt64] at c; exact c) | (rw [Int32.toInt_toInt64, Int32.toInt_toInt64] at c; exact c)
      refine go_iconst (v := 1) rfl (by decide) ?_
      refine go_goto (tgt := 18) rfl (by decide) ?_
      refine go_rz rfl rfl (by decide) ?_
      show ab_go 999 ab_M_X10_back 9 [(0, .ref 82), (1, .int w)] [.int 1] g _
      refine go_ift (tgt := 14) rfl (by decide) (by decide) ?_
      refine go_s (pc' := 15) (lv' := [(0, .ref 82), (1, .int w)]) (st' := [.ref 82]) rfl rfl rfl ?_
      refine go_c rfl rfl (ab_cal_v (As := []) (rest := []) rfl rfl rfl (ab_fo q p1_o_p1_Hm_82 (by decide)) rfl rfl rfl rfl) (lv0 := [(0, .ref 82)]) rfl (go_sim p1_R26 q) (fun r0 g5 hr => ?_)
      obtain ⟨rfl, z8, w0, q6, f0⟩ := hr
      have x7 := x0.next f0 z8 w0
      show ab_go 999 ab_M_X10_back 18 [(0, .ref 82), (1, .int w)] [.int 1] g5 _
      refine go_ift (tgt := 24) rfl (by decide) (by decide) ?_
      refine go_s (pc' := 25) (lv' := [(0, .ref 82), (1, .int w)]) (st' := [.ref 82]) rfl rfl rfl ?_
      refine go_c rfl rfl (ab_cal_v (As := []) (rest := []) rfl rfl rfl (ab_fo q6 p1_o_p1_C26_82 (by decide)) rfl rfl rfl rfl) (lv0 := [(0, .ref 82)]) rfl (go_sim p1_R29 q6) (fun r0 g9 hr => ?_)
      obtain ⟨rfl, z12, w0, q10, f0⟩ := hr
      have x11 := x7.next f0 z12 w0
      show ab_go 999 ab_M_X10_back 28 [(0, .ref 82), (1, .int w)] [] g9 _
      refine go_s (pc' := 29) (lv' := [(0, .ref 82), (1, .int w)]) (st' := [.int w]) rfl rfl rfl ?_
      refine go_if (tgt := 39) rfl (by decide) (fun c => ?_) (fun c => ?_)
      ·
        have c13 : ¬ w.toInt = 0 := c
        refine go_s (pc' := 40) (lv' := [(0, .ref 82), (1, .int w)]) (st' := [.int w]) rfl rfl rfl ?_
        refine go_iconst (v := 1) rfl (by decide) ?_
        refine go_ic (tgt := 51) rfl (by decide) (fun c => ?_) (fun c => ?_)
        ·
          have c14 : ¬ w.toInt = 1 := c
          refine go_s (pc' := 52) (lv' := [(0, .ref 82), (1, .int w)]) (st' := [.int w]) rfl rfl rfl ?_
          refine go_iconst (v := 2) rfl (by decide) ?_
          refine go_ic (tgt := 63) rfl (by decide) (fun c => ?_) (fun c => ?_)
          ·
            have c15 : ¬ w.toInt = 2 := c
            refine go_s (pc' := 64) (lv' := [(0, .ref 82), (1, .int w)]) (st' := [.ref 82]) rfl rfl rfl ?_
            refine go_get (v := .int (-4)) rfl (ab_fo q10 p1_o_p1_C29_82 (by decide)) rfl ?_
            refine go_ri rfl rfl ?_
            exact ⟨(by unfold an_back; first | (rw [if_pos (by omega)]; done) | (rw [if_neg (by omega)]; done) | (rw [if_neg (by omega), if_pos (by omega)]; done) | (rw [if_neg (by omega), if_neg (by omega)]; done) | (rw [if_pos (by omega), if_pos (by omega)]; done) | (rw [if_pos (by omega), if_neg (by omega)]; done) | decide | (simp; omega)), x11⟩
          ·
            have c16 : ¬ (¬ w.toInt = 2) := c
            refine go_s (pc' := 57) (lv' := [(0, .ref 82), (1, .int w)]) (st' := [.ref 82]) rfl rfl rfl ?_
            refine go_get (v := .int (-4)) rfl (ab_fo q10 p1_o_p1_C29_82 (by decide)) rfl ?_
            refine go_goto (tgt := 67) rfl (by decide) ?_
            refine go_ri rfl rfl ?_
            exact ⟨(by unfold an_back; first | (rw [if_pos (by omega)]; done) | (rw [if_neg (by omega)]; done) | (rw [if_neg (by omega), if_pos (by omega)]; done) | (rw [if_neg (by omega), if_neg (by omega)]; done) | (rw [if_pos (by omega), if_pos (by omega)]; done) | (rw [if_pos (by omega), if_neg (by omega)]; done) | decide | (simp; omega)), x11⟩
        ·
          have c17 : ¬ (¬ w.toInt = 1) := c
          refine go_s (pc' := 45) (lv' := [(0, .ref 82), (1, .int w)]) (st' := [.ref 82]) rfl rfl rfl ?_
          refine go_get (v := .int (-4)) rfl (ab_fo q10 p1_o_p1_C29_82 (by decide)) rfl ?_
          refine go_goto (tgt := 67) rfl (by decide) ?_
          refine go_ri rfl rfl ?_
          exact ⟨(by unfold an_back; first | (rw [if_pos (by omega)]; done) | (rw [if_neg (by omega)]; done) | (rw [if_neg (by omega), if_pos (by omega)]; done) | (rw [if_neg (by omega), if_neg (by omega)]; done) | (rw [if_pos (by omega), if_pos (by omega)]; done) | (rw [if_pos (by omega), if_neg (by omega)]; done) | decide | (simp; omega)), x11⟩
      ·
        have c18 : ¬ (¬ w.toInt = 0) := c
        refine go_s (pc' := 33) (lv' := [(0, .ref 82), (1, .int w)]) (st' := [.ref 82]) rfl rfl rfl ?_
        refine go_get (v := .int 0) rfl (ab_fo q10 p1_o_p1_C29_82 (by decide)) rfl ?_
        refine go_goto (tgt := 67) rfl (by decide) ?_
        refine go_ri rfl rfl ?_
        exact ⟨(by unfold an_back; first | (rw [if_pos (by omega)]; done) | (rw [if_neg (by omega)]; done) | (rw [if_neg (by omega), if_pos (by omega)]; done) | (rw [if_neg (by omega), if_neg (by omega)]; done) | (rw [if_pos (by omega), if_pos (by omega)]; done) | (rw [if_pos (by omega), if_neg (by omega)]; done) | decide | (simp; omega)), x11⟩
set_option maxHeartbeats 16000000 in
set_option maxRecDepth 20000 in
theorem m_stuck {g : ab_H} (q : ab_sim p1_Sm p1_Hm g) (w : Int32) : ab_go 999 ab_M_X10_stuck 0 [(0, .ref 82), (1, .int w)] [] g (fun r g' => r = some (.int (an_stuck w)) ∧ p1_Y g g') := by
  have hz : g.1 = 120 := q.1.symm
  have x0 : p1_Y g g := ⟨q.1.symm, q.2.1.symm, rfl⟩
  by_cases c0 : w.toInt = 0
  ·
    obtain rfl : w = 0 := ab_i0 0 c0
    obtain ⟨n, r, hF, hx, hr, z, w0, q1, f0⟩ := go_sim p1_R30 q
    exact ⟨n, r, hF, hx, hr, x0.next f0 z w0⟩
  ·
    by_cases c1 : w.toInt = 1
    ·
      obtain rfl : w = 1 := ab_i0 1 c1
      obtain ⟨n, r, hF, hx, hr, z, w0, q1, f0⟩ := go_sim p1_R31 q
      exact ⟨n, r, hF, hx, hr, x0.next f0 z w0⟩
    ·
      by_cases c2 : w.toInt = 2
      ·
        obtain rfl : w = 2 := ab_i0 2 c2
        obtain ⟨n, r, hF, hx, hr, z, w0, q1, f0⟩ := go_sim p1_R32 q
        exact ⟨n, r, hF, hx, hr, x0.next f0 z w0⟩
      ·
        refine go_s (pc' := 1) (lv' := [(0, .ref 82), (1, .int w)]) (st' := [.int w]) rfl rfl rfl ?_
        refine go_i2l (v := Int32.toInt64 w) rfl rfl ?_
        refine go_lconst (v := 0) rfl (by decide) ?_
        refine go_ldc2 (v := 2) rfl (by decide) ?_
        refine go_cc rfl rfl rfl (lv0 := [(0, .long (Int32.toInt64 w)), (2, .long 0), (4, .long 2)]) rfl ?_
        refine go_s (pc' := 1) (lv' := [(0, .long (Int32.toInt64 w)), (2, .long 0), (4, .long 2)]) (st' := [.long (Int32.toInt64 w)]) rfl rfl rfl ?_
        refine go_s (pc' := 2) (lv' := [(0, .long (Int32.toInt64 w)), (2, .long 0), (4, .long 2)]) (st' := [.long 0, .long (Int32.toInt64 w)]) rfl rfl rfl ?_
        refine go_lc (v := lg_cmp (Int32.toInt64 w) 0) rfl rfl ?_
        refine go_ifl (tgt := 17) rfl (by decide) (fun c => ?_) (fun c => ?_)
        ·
          have c1 : w.toInt < 0 := by first | exact c | (rw [Int32.toInt_toInt64] at c; exact c) | (rw [Int32.toInt_toInt64, Int32.toInt_toInt64] at c; exact c)
          refine go_iconst (v := 0) rfl (by decide) ?_
          refine go_rz rfl rfl (by decide) ?_
          show ab_go 999 ab_M_X10_stuck 9 [(0, .ref 82), (1, .int w)] [.int 0] g _
          refine go_iff rfl (by decide) ?_
          refine go_iconst (v := (-1)) rfl (by decide) ?_
          refine go_ri rfl rfl ?_
          exact ⟨(by unfold an_stuck; rw [if_neg (by omega), if_neg (by omega)]), x0⟩
        ·
          have c2 : ¬ w.toInt < 0 := by first | exact c | (rw [Int32.toInt_toInt64] at c; exact c) | (rw [Int32.toInt_toInt64, Int32.toInt_toInt64] at c; exact c)
          refine go_s (pc' := 7) (lv' := [(0, .long (Int32.toInt64 w)), (2, .long 0), (4, .long 2)]) (st' := [.long (Int32.toInt64 w)]) rfl rfl rfl ?_
          refine go_s (pc' := 9) (lv' := [(0, .long (Int32.toInt64 w)), (2, .long 0), (4, .long 2)]) (st' := [.long 2, .long (Int32.toInt64 w)]) rfl rfl rfl ?_
          refine go_lc (v := lg_cmp (Int32.toInt64 w) 2) rfl rfl ?_
          refine go_ifl (tgt := 17) rfl (by decide) (fun c => ?_) (fun c => ?_)
          ·
            have c3 : 2 < w.toInt := by first | exact c | (rw [Int32.toInt_toInt64] at c; exact c) | (rw [Int32.toInt_toInt64, Int32.toInt_toInt64] at c; exact c)
            refine go_iconst (v := 0) rfl (by decide) ?_
            refine go_rz rfl rfl (by decide) ?_
            show ab_go 999 ab_M_X10_stuck 9 [(0, .ref 82), (1, .int w)] [.int 0] g _
            refine go_iff rfl (by decide) ?_
            refine go_iconst (v := (-1)) rfl (by decide) ?_
            refine go_ri rfl rfl ?_
            exact ⟨(by unfold an_stuck; rw [if_neg (by omega), if_neg (by omega)]), x0⟩
          ·
            have c4 : ¬ 2 < w.toInt := by first | exact c | (rw [Int32.toInt_toInt64] at c; exact c) | (rw [Int32.toInt_toInt64, Int32.toInt_toInt64] at c; exact c)
            exfalso; omega
set_option maxHeartbeats 16000000 in
set_option maxRecDepth 20000 in
theorem m_aim {g : ab_H} (q : ab_sim p1_Sm p1_Hm g) (w : Int32) (t : Int32) : ab_go 999 ab_M_X10_aim 0 [(0, .ref 82), (1, .int w), (2, .int t)] [] g (fun r g' => r = some (.int (-1)) ∧ p1_Y g g') := by
  have hz : g.1 = 120 := q.1.symm
  have x0 : p1_Y g g := ⟨q.1.symm, q.2.1.symm, rfl⟩
  refine go_s (pc' := 1) (lv' := [(0, .ref 82), (1, .int w), (2, .int t)]) (st' := [.ref 82]) rfl rfl rfl ?_
  refine go_s (pc' := 2) (lv' := [(0, .ref 82), (1, .int w), (2, .int t)]) (st' := [.int w, .ref 82]) rfl rfl rfl ?_
  refine go_cc rfl rfl (ab_cal_v (As := [.int w]) (rest := []) rfl rfl rfl (ab_fo q p1_o_p1_Hm_82 (by decide)) rfl rfl rfl rfl) (lv0 := [(0, .ref 82), (1, .int w)]) rfl ?_
  refine go_s (pc' := 1) (lv' := [(0, .ref 82), (1, .int w)]) (st' := [.int w]) rfl rfl rfl ?_
  refine go_i2l (v := Int32.toInt64 w) rfl rfl ?_
  refine go_lconst (v := 0) rfl (by decide) ?_
  refine go_s (pc' := 4) (lv' := [(0, .ref 82), (1, .int w)]) (st' := [.ref 82, .long 0, .long (Int32.toInt64 w)]) rfl rfl rfl ?_
  refine go_get (v := .int 0) rfl (ab_fo q p1_o_p1_Hm_82 (by decide)) rfl ?_
  refine go_iconst (v := 1) rfl (by decide) ?_
  refine go_b2 (v := (-1)) rfl rfl (fun _ => rfl) (by decide) ?_
  refine go_i2l (v := (-1)) rfl (by decide) ?_
  refine go_cc rfl rfl rfl (lv0 := [(0, .long (Int32.toInt64 w)), (2, .long 0), (4, .long (-1))]) rfl ?_
  refine go_s (pc' := 1) (lv' := [(0, .long (Int32.toInt64 w)), (2, .long 0), (4, .long (-1))]) (st' := [.long (Int32.toInt64 w)]) rfl rfl rfl ?_
  refine go_s (pc' := 2) (lv' := [(0, .long (Int32.toInt64 w)), (2, .long 0), (4, .long (-1))]) (st' := [.long 0, .long (Int32.toInt64 w)]) rfl rfl rfl ?_
  refine go_lc (v := lg_cmp (Int32.toInt64 w) 0) rfl rfl ?_
  refine go_ifl (tgt := 17) rfl (by decide) (fun c => ?_) (fun c => ?_)
  ·
    have c1 : w.toInt < 0 := by first | exact c | (rw [Int32.toInt_toInt64] at c; exact c) | (rw [Int32.toInt_toInt64, Int32.toInt_toInt64] at c; exact c)
    refine go_iconst (v := 0) rfl (by decide) ?_
    refine go_rz rfl rfl (by decide) ?_
    show ab_go 998 ab_M_X10_isWire 13 [(0, .ref 82), (1, .int w)] [.int 0] g _
    refine go_rz rfl rfl (by decide) ?_
    show ab_go 999 ab_M_X10_aim 5 [(0, .ref 82), (1, .int w), (2, .int t)] [.int 0] g _
    refine go_ift (tgt := 26) rfl (by decide) (by decide) ?_
    refine go_iconst (v := (-1)) rfl (by decide) ?_
    refine go_ri rfl rfl ?_
    exact ⟨rfl, x0⟩
  ·
    have c2 : ¬ w.toInt < 0 := by first | exact c | (rw [Int32.toInt_toInt64] at c; exact c) | (rw [Int32.toInt_toInt64, Int32.toInt_toInt64] at c; exact c)
    refine go_s (pc' := 7) (lv' := [(0, .long (Int32.toInt64 w)), (2, .long 0), (4, .long (-1))]) (st' := [.long (Int32.toInt64 w)]) rfl rfl rfl ?_
    refine go_s (pc' := 9) (lv' := [(0, .long (Int32.toInt64 w)), (2, .long 0), (4, .long (-1))]) (st' := [.long (-1), .long (Int32.toInt64 w)]) rfl rfl rfl ?_
    refine go_lc (v := lg_cmp (Int32.toInt64 w) (-1)) rfl rfl ?_
    refine go_ifl (tgt := 17) rfl (by decide) (fun c => ?_) (fun c => ?_)
    ·
      have c3 : (-1) < w.toInt := by first | exact c | (rw [Int32.toInt_toInt64] at c; exact c) | (rw [Int32.toInt_toInt64, Int32.toInt_toInt64] at c; exact c)
      refine go_iconst (v := 0) rfl (by decide) ?_
      refine go_rz rfl rfl (by decide) ?_
      show ab_go 998 ab_M_X10_isWire 13 [(0, .ref 82), (1, .int w)] [.int 0] g _
      refine go_rz rfl rfl (by decide) ?_
      show ab_go 999 ab_M_X10_aim 5 [(0, .ref 82), (1, .int w), (2, .int t)] [.int 0] g _
      refine go_ift (tgt := 26) rfl (by decide) (by decide) ?_
      refine go_iconst (v := (-1)) rfl (by decide) ?_
      refine go_ri rfl rfl ?_
      exact ⟨rfl, x0⟩
    ·
      have c4 : ¬ (-1) < w.toInt := by first | exact c | (rw [Int32.toInt_toInt64] at c; exact c) | (rw [Int32.toInt_toInt64, Int32.toInt_toInt64] at c; exact c)
      exfalso; omega
set_option maxHeartbeats 16000000 in
set_option maxRecDepth 20000 in
theorem m_makes {g : ab_H} (q : ab_sim p1_Sm p1_Hm g) (w : Int32) (t : Int32) : ab_go 999 ab_M_X10_makes 0 [(0, .ref 82), (1, .int w), (2, .int t)] [] g (fun r g' => r = some (.int (-1)) ∧ p1_Y g g') := by
  have hz : g.1 = 120 := q.1.symm
  have x0 : p1_Y g g := ⟨q.1.symm, q.2.1.symm, rfl⟩
  refine go_s (pc' := 1) (lv' := [(0, .ref 82), (1, .int w), (2, .int t)]) (st' := [.ref 82]) rfl rfl rfl ?_
  refine go_s (pc' := 2) (lv' := [(0, .ref 82), (1, .int w), (2, .int t)]) (st' := [.int w, .ref 82]) rfl rfl rfl ?_
  refine go_cc rfl rfl (ab_cal_v (As := [.int w]) (rest := []) rfl rfl rfl (ab_fo q p1_o_p1_Hm_82 (by decide)) rfl rfl rfl rfl) (lv0 := [(0, .ref 82), (1, .int w)]) rfl ?_
  refine go_s (pc' := 1) (lv' := [(0, .ref 82), (1, .int w)]) (st' := [.ref 82]) rfl rfl rfl ?_
  refine go_s (pc' := 2) (lv' := [(0, .ref 82), (1, .int w)]) (st' := [.int w, .ref 82]) rfl rfl rfl ?_
  refine go_cc rfl rfl (ab_cal_v (As := [.int w]) (rest := []) rfl rfl rfl (ab_fo q p1_o_p1_Hm_82 (by decide)) rfl rfl rfl rfl) (lv0 := [(0, .ref 82), (1, .int w)]) rfl ?_
  refine go_s (pc' := 1) (lv' := [(0, .ref 82), (1, .int w)]) (st' := [.int w]) rfl rfl rfl ?_
  refine go_i2l (v := Int32.toInt64 w) rfl rfl ?_
  refine go_lconst (v := 0) rfl (by decide) ?_
  refine go_s (pc' := 4) (lv' := [(0, .ref 82), (1, .int w)]) (st' := [.ref 82, .long 0, .long (Int32.toInt64 w)]) rfl rfl rfl ?_
  refine go_get (v := .int 0) rfl (ab_fo q p1_o_p1_Hm_82 (by decide)) rfl ?_
  refine go_iconst (v := 1) rfl (by decide) ?_
  refine go_b2 (v := (-1)) rfl rfl (fun _ => rfl) (by decide) ?_
  refine go_i2l (v := (-1)) rfl (by decide) ?_
  refine go_cc rfl rfl rfl (lv0 := [(0, .long (Int32.toInt64 w)), (2, .long 0), (4, .long (-1))]) rfl ?_
  refine go_s (pc' := 1) (lv' := [(0, .long (Int32.toInt64 w)), (2, .long 0), (4, .long (-1))]) (st' := [.long (Int32.toInt64 w)]) rfl rfl rfl ?_
  refine go_s (pc' := 2) (lv' := [(0, .long (Int32.toInt64 w)), (2, .long 0), (4, .long (-1))]) (st' := [.long 0, .long (Int32.toInt64 w)]) rfl rfl rfl ?_
  refine go_lc (v := lg_cmp (Int32.toInt64 w) 0) rfl rfl ?_
  refine go_ifl (tgt := 17) rfl (by decide) (fun c => ?_) (fun c => ?_)
  ·
    have c1 : w.toInt < 0 := by first | exact c | (rw [Int32.toInt_toInt64] at c; exact c) | (rw [Int32.toInt_toInt64, Int32.toInt_toInt64] at c; exact c)
    refine go_iconst (v := 0) rfl (by decide) ?_
    refine go_rz rfl rfl (by decide) ?_
    show ab_go 997 ab_M_X10_isWire 13 [(0, .ref 82), (1, .int w)] [.int 0] g _
    refine go_rz rfl rfl (by decide) ?_
    show ab_go 998 ab_M_X10_isOwn 5 [(0, .ref 82), (1, .int w)] [.int 0] g _
    refine go_ift (tgt := 21) rfl (by decide) (by decide) ?_
    refine go_iconst (v := 0) rfl (by decide) ?_
    refine go_rz rfl rfl (by decide) ?_
    show ab_go 999 ab_M_X10_makes 5 [(0, .ref 82), (1, .int w), (2, .int t)] [.int 0] g _
    refine go_ift (tgt := 32) rfl (by decide) (by decide) ?_
    refine go_iconst (v := (-1)) rfl (by decide) ?_
    refine go_ri rfl rfl ?_
    exact ⟨rfl, x0⟩
  ·
    have c2 : ¬ w.toInt < 0 := by first | exact c | (rw [Int32.toInt_toInt64] at c; exact c) | (rw [Int32.toInt_toInt64, Int32.toInt_toInt64] at c; exact c)
    refine go_s (pc' := 7) (lv' := [(0, .long (Int32.toInt64 w)), (2, .long 0), (4, .long (-1))]) (st' := [.long (Int32.toInt64 w)]) rfl rfl rfl ?_
    refine go_s (pc' := 9) (lv' := [(0, .long (Int32.toInt64 w)), (2, .long 0), (4, .long (-1))]) (st' := [.long (-1), .long (Int32.toInt64 w)]) rfl rfl rfl ?_
    refine go_lc (v := lg_cmp (Int32.toInt64 w) (-1)) rfl rfl ?_
    refine go_ifl (tgt := 17) rfl (by decide) (fun c => ?_) (fun c => ?_)
    ·
      have c3 : (-1) < w.toInt := by first | exact c | (rw [Int32.toInt_toInt64] at c; exact c) | (rw [Int32.toInt_toInt64, Int32.toInt_toInt64] at c; exact c)
      refine go_iconst (v := 0) rfl (by decide) ?_
      refine go_rz rfl rfl (by decide) ?_
      show ab_go 997 ab_M_X10_isWire 13 [(0, .ref 82), (1, .int w)] [.int 0] g _
      refine go_rz rfl rfl (by decide) ?_
      show ab_go 998 ab_M_X10_isOwn 5 [(0, .ref 82), (1, .int w)] [.int 0] g _
      refine go_ift (tgt := 21) rfl (by decide) (by decide) ?_
      refine go_iconst (v := 0) rfl (by decide) ?_
      refine go_rz rfl rfl (by decide) ?_
      show ab_go 999 ab_M_X10_makes 5 [(0, .ref 82), (1, .int w), (2, .int t)] [.int 0] g _
      refine go_ift (tgt := 32) rfl (by decide) (by decide) ?_
      refine go_iconst (v := (-1)) rfl (by decide) ?_
      refine go_ri rfl rfl ?_
      exact ⟨rfl, x0⟩
    ·
      have c4 : ¬ (-1) < w.toInt := by first | exact c | (rw [Int32.toInt_toInt64] at c; exact c) | (rw [Int32.toInt_toInt64, Int32.toInt_toInt64] at c; exact c)
      exfalso; omega
set_option maxHeartbeats 16000000 in
set_option maxRecDepth 20000 in
theorem m_judge {g : ab_H} (q : ab_sim p1_Sm p1_Hm g) (w : Int32) (k : Int32) (t : Int32) (f : Int32) (n : Int32) : ab_go 999 ab_M_X10_judge 0 [(0, .ref 82), (1, .int w), (2, .int k), (3, .int t), (4, .int f), (5, .int n)] [] g (fun r g' => r = some (.int (-1)) ∧ p1_Y g g') := by
  have hz : g.1 = 120 := q.1.symm
  have x0 : p1_Y g g := ⟨q.1.symm, q.2.1.symm, rfl⟩
  refine go_s (pc' := 1) (lv' := [(0, .ref 82), (1, .int w), (2, .int k), (3, .int t), (4, .int f), (5, .int n)]) (st' := [.ref 82]) rfl rfl rfl ?_
  refine go_s (pc' := 2) (lv' := [(0, .ref 82), (1, .int w), (2, .int k), (3, .int t), (4, .int f), (5, .int n)]) (st' := [.int w, .ref 82]) rfl rfl rfl ?_
  refine go_cc rfl rfl (ab_cal_v (As := [.int w]) (rest := []) rfl rfl rfl (ab_fo q p1_o_p1_Hm_82 (by decide)) rfl rfl rfl rfl) (lv0 := [(0, .ref 82), (1, .int w)]) rfl ?_
  refine go_s (pc' := 1) (lv' := [(0, .ref 82), (1, .int w)]) (st' := [.ref 82]) rfl rfl rfl ?_
  refine go_s (pc' := 2) (lv' := [(0, .ref 82), (1, .int w)]) (st' := [.int w, .ref 82]) rfl rfl rfl ?_
  refine go_cc rfl rfl (ab_cal_v (As := [.int w]) (rest := []) rfl rfl rfl (ab_fo q p1_o_p1_Hm_82 (by decide)) rfl rfl rfl rfl) (lv0 := [(0, .ref 82), (1, .int w)]) rfl ?_
  refine go_s (pc' := 1) (lv' := [(0, .ref 82), (1, .int w)]) (st' := [.int w]) rfl rfl rfl ?_
  refine go_i2l (v := Int32.toInt64 w) rfl rfl ?_
  refine go_lconst (v := 0) rfl (by decide) ?_
  refine go_s (pc' := 4) (lv' := [(0, .ref 82), (1, .int w)]) (st' := [.ref 82, .long 0, .long (Int32.toInt64 w)]) rfl rfl rfl ?_
  refine go_get (v := .int 0) rfl (ab_fo q p1_o_p1_Hm_82 (by decide)) rfl ?_
  refine go_iconst (v := 1) rfl (by decide) ?_
  refine go_b2 (v := (-1)) rfl rfl (fun _ => rfl) (by decide) ?_
  refine go_i2l (v := (-1)) rfl (by decide) ?_
  refine go_cc rfl rfl rfl (lv0 := [(0, .long (Int32.toInt64 w)), (2, .long 0), (4, .long (-1))]) rfl ?_
  refine go_s (pc' := 1) (lv' := [(0, .long (Int32.toInt64 w)), (2, .long 0), (4, .long (-1))]) (st' := [.long (Int32.toInt64 w)]) rfl rfl rfl ?_
  refine go_s (pc' := 2) (lv' := [(0, .long (Int32.toInt64 w)), (2, .long 0), (4, .long (-1))]) (st' := [.long 0, .long (Int32.toInt64 w)]) rfl rfl rfl ?_
  refine go_lc (v := lg_cmp (Int32.toInt64 w) 0) rfl rfl ?_
  refine go_ifl (tgt := 17) rfl (by decide) (fun c => ?_) (fun c => ?_)
  ·
    have c1 : w.toInt < 0 := by first | exact c | (rw [Int32.toInt_toInt64] at c; exact c) | (rw [Int32.toInt_toInt64, Int32.toInt_toInt64] at c; exact c)
    refine go_iconst (v := 0) rfl (by decide) ?_
    refine go_rz rfl rfl (by decide) ?_
    show ab_go 997 ab_M_X10_isWire 13 [(0, .ref 82), (1, .int w)] [.int 0] g _
    refine go_rz rfl rfl (by decide) ?_
    show ab_go 998 ab_M_X10_isOwn 5 [(0, .ref 82), (1, .int w)] [.int 0] g _
    refine go_ift (tgt := 21) rfl (by decide) (by decide) ?_
    refine go_iconst (v := 0) rfl (by decide) ?_
    refine go_rz rfl rfl (by decide) ?_
    show ab_go 999 ab_M_X10_judge 5 [(0, .ref 82), (1, .int w), (2, .int k), (3, .int t), (4, .int f), (5, .int n)] [.int 0] g _
    refine go_ift (tgt := 45) rfl (by decide) (by decide) ?_
    refine go_iconst (v := (-1)) rfl (by decide) ?_
    refine go_ri rfl rfl ?_
    exact ⟨rfl, x0⟩
  ·
    have c2 : ¬ w.toInt < 0 := by first | exact c | (rw [Int32.toInt_toInt64] at c; exact c) | (rw [Int32.toInt_toInt64, Int32.toInt_toInt64] at c; exact c)
    refine go_s (pc' := 7) (lv' := [(0, .long (Int32.toInt64 w)), (2, .long 0), (4, .long (-1))]) (st' := [.long (Int32.toInt64 w)]) rfl rfl rfl ?_
    refine go_s (pc' := 9) (lv' := [(0, .long (Int32.toInt64 w)), (2, .long 0), (4, .long (-1))]) (st' := [.long (-1), .long (Int32.toInt64 w)]) rfl rfl rfl ?_
    refine go_lc (v := lg_cmp (Int32.toInt64 w) (-1)) rfl rfl ?_
    refine go_ifl (tgt := 17) rfl (by decide) (fun c => ?_) (fun c => ?_)
    ·
      have c3 : (-1) < w.toInt := by first | exact c | (rw [Int32.toInt_toInt64] at c; exact c) | (rw [Int32.toInt_toInt64, Int32.toInt_toInt64] at c; exact c)
      refine go_iconst (v := 0) rfl (by decide) ?_
      refine go_rz rfl rfl (by decide) ?_
      show ab_go 997 ab_M_X10_isWire 13 [(0, .ref 82), (1, .int w)] [.int 0] g _
      refine go_rz rfl rfl (by decide) ?_
      show ab_go 998 ab_M_X10_isOwn 5 [(0, .ref 82), (1, .int w)] [.int 0] g _
      refine go_ift (tgt := 21) rfl (by decide) (by decide) ?_
      refine go_iconst (v := 0) rfl (by decide) ?_
      refine go_rz rfl rfl (by decide) ?_
      show ab_go 999 ab_M_X10_judge 5 [(0, .ref 82), (1, .int w), (2, .int k), (3, .int t), (4, .int f), (5, .int n)] [.int 0] g _
      refine go_ift (tgt := 45) rfl (by decide) (by decide) ?_
      refine go_iconst (v := (-1)) rfl (by decide) ?_
      refine go_ri rfl rfl ?_
      exact ⟨rfl, x0⟩
    ·
      have c4 : ¬ (-1) < w.toInt := by first | exact c | (rw [Int32.toInt_toInt64] at c; exact c) | (rw [Int32.toInt_toInt64, Int32.toInt_toInt64] at c; exact c)
      exfalso; omega
