theorem p1_toM {g g1 : ab_H} (q : ab_sim p1_Sx p1_Hx g) (hm : ∀ a, 81 < a → a < 120 → g.2.2 a = p1_H.2.2 a) (x : p1_X g g1) : ab_sim p1_Sm p1_Hm g1 := by
  refine ⟨x.1.symm, x.2.1.symm, fun a ha hS => ?_, fun a hS => ⟨?_, if_pos hS⟩⟩
  · have ha : a < 120 := ha
    have hS : ¬ a ≤ 81 := hS
    show (if a ≤ 81 then ab_bad else p1_H.2.2 a) = g1.2.2 a
    rw [if_neg hS, x.2.2 a ⟨ha, Or.inr (by omega)⟩, hm a (by omega) ha]
  · have hS : a ≤ 81 := hS
    show a < 120
    omega
theorem p1_scr {g g1 : ab_H} {e : ab_E} (h : ab_rd g 0 = some e) (x : p1_X g g1) : ab_rd g1 0 = some e := by
  obtain ⟨h1, h2⟩ := ab_rd_of h
  unfold ab_rd
  rw [if_pos (by rw [x.1]; decide), x.2.2 0 ⟨by decide, Or.inl rfl⟩, h2]
theorem p1_scr2 {g g1 : ab_H} {e : ab_E} (h : ab_rd g 0 = some e) (x : p1_Y g g1) : ab_rd g1 0 = some e := by
  obtain ⟨h1, h2⟩ := ab_rd_of h
  unfold ab_rd
  rw [if_pos (by rw [x.1]; decide), x.2.2, h2]
def p1_Q : Option Value → ab_H → Prop := fun r h => r = some (.int 1) ∧ h.1 ≤ 600001 ∧ h.2.1 ≤ 7302250
set_option maxRecDepth 20000 in
/-- behind a call: i grows by 6, the loop ends -/
theorem p1_tail {g : ab_H} {xs : Nat → Int32} (hs : ab_rd g 0 = some (.inl (0, 6, .inl xs))) (h1 : g.1 = 120) (h2 : g.2.1 = 21717) : ab_go 1000 ab_M_L_law 1038 [(3, .int 0), (2, .ref 82), (1, .ref 1), (0, .ref 0)] [] g p1_Q := by
  refine go_s (pc' := 1041) (lv' := [(3, .int 6), (2, .ref 82), (1, .ref 1), (0, .ref 0)]) (st' := []) rfl rfl rfl ?_
  refine go_goto (tgt := 18) rfl (by decide) ?_
  refine go_s (pc' := 19) (lv' := [(3, .int 6), (2, .ref 82), (1, .ref 1), (0, .ref 0)]) (st' := [.int 6]) rfl rfl rfl ?_
  refine go_s (pc' := 20) (lv' := [(3, .int 6), (2, .ref 82), (1, .ref 1), (0, .ref 0)]) (st' := [.ref 0, .int 6]) rfl rfl rfl ?_
  refine go_len (v := 6) rfl hs (by decide) (by decide) ?_
  refine go_bipush (v := 6) rfl (by decide) ?_
  refine go_b2 (v := 0) rfl rfl (fun _ => rfl) (by decide) ?_
  refine go_ict (tgt := 1044) rfl (by decide) (by decide) ?_
  refine go_iconst (v := 1) rfl (by decide) ?_
  refine go_rz rfl rfl (by decide) ?_
  exact ⟨rfl, by rw [h1]; decide, by rw [h2]; decide⟩
set_option maxHeartbeats 16000000 in
set_option maxRecDepth 20000 in
theorem p1_case_0 {g : ab_H} {xs : Nat → Int32} (q : ab_sim p1_Sx p1_Hx g) (hm : ∀ a, 81 < a → a < 120 → g.2.2 a = p1_H.2.2 a) (hs : ab_rd g 0 = some (.inl (0, 6, .inl xs))) : ab_go 1000 ab_M_L_law 168 [(3, .int 0), (2, .ref 82), (1, .ref 1), (0, .ref 0)] [] g p1_Q := by
  obtain ⟨a1, e1⟩ : ∃ a, xs 1 = a := ⟨_, rfl⟩
  obtain ⟨a2, e2⟩ : ∃ a, xs 2 = a := ⟨_, rfl⟩
  obtain ⟨a3, e3⟩ : ∃ a, xs 3 = a := ⟨_, rfl⟩
  obtain ⟨a4, e4⟩ : ∃ a, xs 4 = a := ⟨_, rfl⟩
  obtain ⟨a5, e5⟩ : ∃ a, xs 5 = a := ⟨_, rfl⟩
  refine go_s (pc' := 169) (lv' := [(3, .int 0), (2, .ref 82), (1, .ref 1), (0, .ref 0)]) (st' := [.ref 1]) rfl rfl rfl ?_
  refine go_s (pc' := 170) (lv' := [(3, .int 0), (2, .ref 82), (1, .ref 1), (0, .ref 0)]) (st' := [.ref 0, .ref 1]) rfl rfl rfl ?_
  refine go_s (pc' := 171) (lv' := [(3, .int 0), (2, .ref 82), (1, .ref 1), (0, .ref 0)]) (st' := [.int 0, .ref 0, .ref 1]) rfl rfl rfl ?_
  refine go_iconst (v := 1) rfl (by decide) ?_
  refine go_b2 (v := 1) rfl rfl (fun _ => rfl) (by decide) ?_
  refine go_ial (v := a1) rfl hs (by decide) e1 ?_
  refine go_i2l (v := Int32.toInt64 a1) rfl rfl ?_
  refine go_bipush (v := 32) rfl (by decide) ?_
  obtain ⟨w1, ew1⟩ : ∃ w : Int64, ((Int32.toInt64 a1) <<< (Int32.toInt64 32 &&& 63)) = w := ⟨_, rfl⟩
  refine go_ls (v := w1) rfl rfl (fun _ => rfl) ew1 ?_
  refine go_s (pc' := 179) (lv' := [(3, .int 0), (2, .ref 82), (1, .ref 1), (0, .ref 0)]) (st' := [.ref 0, .long w1, .ref 1]) rfl rfl rfl ?_
  refine go_s (pc' := 180) (lv' := [(3, .int 0), (2, .ref 82), (1, .ref 1), (0, .ref 0)]) (st' := [.int 0, .ref 0, .long w1, .ref 1]) rfl rfl rfl ?_
  refine go_iconst (v := 2) rfl (by decide) ?_
  refine go_b2 (v := 2) rfl rfl (fun _ => rfl) (by decide) ?_
  refine go_ial (v := a2) rfl hs (by decide) e2 ?_
  refine go_i2l (v := Int32.toInt64 a2) rfl rfl ?_
  refine go_ldc2 (v := 4294967295) rfl (by decide) ?_
  obtain ⟨w2, ew2⟩ : ∃ w : Int64, ((Int32.toInt64 a2) &&& 4294967295) = w := ⟨_, rfl⟩
  refine go_l2 (v := w2) rfl rfl (fun _ => rfl) ew2 ?_
  obtain ⟨w3, ew3⟩ : ∃ w : Int64, (w1 ||| w2) = w := ⟨_, rfl⟩
  refine go_l2 (v := w3) rfl rfl (fun _ => rfl) ew3 ?_
  refine go_c rfl rfl (ab_cal_v (As := [.long w3]) (rest := []) rfl rfl rfl (ab_fo q p1_o_p1_Hx_1 (by decide)) rfl rfl rfl rfl) (lv0 := [(0, .ref 1), (1, .long w3)]) rfl (x_feed q w3) (fun r0 g1 hr => ?_)
  obtain ⟨rfl, xp⟩ := hr
  have qm := p1_toM q hm xp
  have hs := p1_scr hs xp
  show ab_go 1000 ab_M_L_law 192 [(3, .int 0), (2, .ref 82), (1, .ref 1), (0, .ref 0)] [.int 8] g1 _
  refine go_s (pc' := 193) (lv' := [(3, .int 0), (2, .ref 82), (1, .ref 1), (0, .ref 0)]) (st' := [.ref 82, .int 8]) rfl rfl rfl ?_
  refine go_s (pc' := 194) (lv' := [(3, .int 0), (2, .ref 82), (1, .ref 1), (0, .ref 0)]) (st' := [.ref 0, .ref 82, .int 8]) rfl rfl rfl ?_
  refine go_s (pc' := 195) (lv' := [(3, .int 0), (2, .ref 82), (1, .ref 1), (0, .ref 0)]) (st' := [.int 0, .ref 0, .ref 82, .int 8]) rfl rfl rfl ?_
  refine go_iconst (v := 1) rfl (by decide) ?_
  refine go_b2 (v := 1) rfl rfl (fun _ => rfl) (by decide) ?_
  refine go_ial (v := a1) rfl hs (by decide) e1 ?_
  refine go_i2l (v := Int32.toInt64 a1) rfl rfl ?_
  refine go_bipush (v := 32) rfl (by decide) ?_
  refine go_ls (v := w1) rfl rfl (fun _ => rfl) ew1 ?_
  refine go_s (pc' := 203) (lv' := [(3, .int 0), (2, .ref 82), (1, .ref 1), (0, .ref 0)]) (st' := [.ref 0, .long w1, .ref 82, .int 8]) rfl rfl rfl ?_
  refine go_s (pc' := 204) (lv' := [(3, .int 0), (2, .ref 82), (1, .ref 1), (0, .ref 0)]) (st' := [.int 0, .ref 0, .long w1, .ref 82, .int 8]) rfl rfl rfl ?_
  refine go_iconst (v := 2) rfl (by decide) ?_
  refine go_b2 (v := 2) rfl rfl (fun _ => rfl) (by decide) ?_
  refine go_ial (v := a2) rfl hs (by decide) e2 ?_
  refine go_i2l (v := Int32.toInt64 a2) rfl rfl ?_
  refine go_ldc2 (v := 4294967295) rfl (by decide) ?_
  refine go_l2 (v := w2) rfl rfl (fun _ => rfl) ew2 ?_
  refine go_l2 (v := w3) rfl rfl (fun _ => rfl) ew3 ?_
  refine go_c rfl rfl (ab_cal_v (As := [.long w3]) (rest := [.int 8]) rfl rfl rfl (ab_fo qm p1_o_p1_Hm_82 (by decide)) rfl rfl rfl rfl) (lv0 := [(0, .ref 82), (1, .long w3)]) rfl (m_feed qm w3) (fun r0 g2 hr => ?_)
  obtain ⟨rfl, yp⟩ := hr
  have hs := p1_scr2 hs yp
  show ab_go 1000 ab_M_L_law 216 [(3, .int 0), (2, .ref 82), (1, .ref 1), (0, .ref 0)] [.int 8, .int 8] g2 _
  refine go_ict (tgt := 1038) rfl (by decide) (ab_cd_rf _) ?_
  exact p1_tail hs yp.1 yp.2.1
set_option maxHeartbeats 16000000 in
set_option maxRecDepth 20000 in
theorem p1_case_1 {g : ab_H} {xs : Nat → Int32} (q : ab_sim p1_Sx p1_Hx g) (hm : ∀ a, 81 < a → a < 120 → g.2.2 a = p1_H.2.2 a) (hs : ab_rd g 0 = some (.inl (0, 6, .inl xs))) : ab_go 1000 ab_M_L_law 221 [(3, .int 0), (2, .ref 82), (1, .ref 1), (0, .ref 0)] [] g p1_Q := by
  obtain ⟨a1, e1⟩ : ∃ a, xs 1 = a := ⟨_, rfl⟩
  obtain ⟨a2, e2⟩ : ∃ a, xs 2 = a := ⟨_, rfl⟩
  obtain ⟨a3, e3⟩ : ∃ a, xs 3 = a := ⟨_, rfl⟩
  obtain ⟨a4, e4⟩ : ∃ a, xs 4 = a := ⟨_, rfl⟩
  obtain ⟨a5, e5⟩ : ∃ a, xs 5 = a := ⟨_, rfl⟩
  refine go_s (pc' := 222) (lv' := [(3, .int 0), (2, .ref 82), (1, .ref 1), (0, .ref 0)]) (st' := [.ref 1]) rfl rfl rfl ?_
  refine go_s (pc' := 223) (lv' := [(3, .int 0), (2, .ref 82), (1, .ref 1), (0, .ref 0)]) (st' := [.ref 0, .ref 1]) rfl rfl rfl ?_
  refine go_s (pc' := 224) (lv' := [(3, .int 0), (2, .ref 82), (1, .ref 1), (0, .ref 0)]) (st' := [.int 0, .ref 0, .ref 1]) rfl rfl rfl ?_
  refine go_iconst (v := 1) rfl (by decide) ?_
  refine go_b2 (v := 1) rfl rfl (fun _ => rfl) (by decide) ?_
  refine go_ial (v := a1) rfl hs (by decide) e1 ?_
  refine go_c rfl rfl (ab_cal_v (As := [.int a1]) (rest := []) rfl rfl rfl (ab_fo q p1_o_p1_Hx_1 (by decide)) rfl rfl rfl rfl) (lv0 := [(0, .ref 1), (1, .int a1)]) rfl (x_end q a1) (fun r0 g1 hr => ?_)
  obtain ⟨rfl, xp⟩ := hr
  have qm := p1_toM q hm xp
  have hs := p1_scr hs xp
  show ab_go 1000 ab_M_L_law 230 [(3, .int 0), (2, .ref 82), (1, .ref 1), (0, .ref 0)] [.int (an_end a1)] g1 _
  refine go_s (pc' := 231) (lv' := [(3, .int 0), (2, .ref 82), (1, .ref 1), (0, .ref 0)]) (st' := [.ref 82, .int (an_end a1)]) rfl rfl rfl ?_
  refine go_s (pc' := 232) (lv' := [(3, .int 0), (2, .ref 82), (1, .ref 1), (0, .ref 0)]) (st' := [.ref 0, .ref 82, .int (an_end a1)]) rfl rfl rfl ?_
  refine go_s (pc' := 233) (lv' := [(3, .int 0), (2, .ref 82), (1, .ref 1), (0, .ref 0)]) (st' := [.int 0, .ref 0, .ref 82, .int (an_end a1)]) rfl rfl rfl ?_
  refine go_iconst (v := 1) rfl (by decide) ?_
  refine go_b2 (v := 1) rfl rfl (fun _ => rfl) (by decide) ?_
  refine go_ial (v := a1) rfl hs (by decide) e1 ?_
  refine go_c rfl rfl (ab_cal_v (As := [.int a1]) (rest := [.int (an_end a1)]) rfl rfl rfl (ab_fo qm p1_o_p1_Hm_82 (by decide)) rfl rfl rfl rfl) (lv0 := [(0, .ref 82), (1, .int a1)]) rfl (m_end qm a1) (fun r0 g2 hr => ?_)
  obtain ⟨rfl, yp⟩ := hr
  have hs := p1_scr2 hs yp
  show ab_go 1000 ab_M_L_law 239 [(3, .int 0), (2, .ref 82), (1, .ref 1), (0, .ref 0)] [.int (an_end a1), .int (an_end a1)] g2 _
  refine go_ict (tgt := 1038) rfl (by decide) (ab_cd_rf _) ?_
  exact p1_tail hs yp.1 yp.2.1
set_option maxHeartbeats 16000000 in
set_option maxRecDepth 20000 in
theorem p1_case_2 {g : ab_H} {xs : Nat → Int32} (q : ab_sim p1_Sx p1_Hx g) (hm : ∀ a, 81 < a → a < 120 → g.2.2 a = p1_H.2.2 a) (hs : ab_rd g 0 = some (.inl (0, 6, .inl xs))) : ab_go 1000 ab_M_L_law 244 [(3, .int 0), (2, .ref 82), (1, .ref 1), (0, .ref 0)] [] g p1_Q := by
  obtain ⟨a1, e1⟩ : ∃ a, xs 1 = a := ⟨_, rfl⟩
  obtain ⟨a2, e2⟩ : ∃ a, xs 2 = a := ⟨_, rfl⟩
  obtain ⟨a3, e3⟩ : ∃ a, xs 3 = a := ⟨_, rfl⟩
  obtain ⟨a4, e4⟩ : ∃ a, xs 4 = a := ⟨_, rfl⟩
  obtain ⟨a5, e5⟩ : ∃ a, xs 5 = a := ⟨_, rfl⟩
  refine go_s (pc' := 245) (lv' := [(3, .int 0), (2, .ref 82), (1, .ref 1), (0, .ref 0)]) (st' := [.ref 1]) rfl rfl rfl ?_
  refine go_c rfl rfl (ab_cal_v (As := []) (rest := []) rfl rfl rfl (ab_fo q p1_o_p1_Hx_1 (by decide)) rfl rfl rfl rfl) (lv0 := [(0, .ref 1)]) rfl (x_text q ) (fun r0 g1 hr => ?_)
  obtain ⟨rfl, xp⟩ := hr
  have qm := p1_toM q hm xp
  have hs := p1_scr hs xp
  show ab_go 1000 ab_M_L_law 248 [(3, .int 0), (2, .ref 82), (1, .ref 1), (0, .ref 0)] [.int 0] g1 _
  refine go_s (pc' := 249) (lv' := [(3, .int 0), (2, .ref 82), (1, .ref 1), (0, .ref 0)]) (st' := [.ref 82, .int 0]) rfl rfl rfl ?_
  refine go_c rfl rfl (ab_cal_v (As := []) (rest := [.int 0]) rfl rfl rfl (ab_fo qm p1_o_p1_Hm_82 (by decide)) rfl rfl rfl rfl) (lv0 := [(0, .ref 82)]) rfl (m_text qm ) (fun r0 g2 hr => ?_)
  obtain ⟨rfl, yp⟩ := hr
  have hs := p1_scr2 hs yp
  show ab_go 1000 ab_M_L_law 252 [(3, .int 0), (2, .ref 82), (1, .ref 1), (0, .ref 0)] [.int 0, .int 0] g2 _
  refine go_ict (tgt := 1038) rfl (by decide) (ab_cd_rf _) ?_
  exact p1_tail hs yp.1 yp.2.1
set_option maxHeartbeats 16000000 in
set_option maxRecDepth 20000 in
theorem p1_case_3 {g : ab_H} {xs : Nat → Int32} (q : ab_sim p1_Sx p1_Hx g) (hm : ∀ a, 81 < a → a < 120 → g.2.2 a = p1_H.2.2 a) (hs : ab_rd g 0 = some (.inl (0, 6, .inl xs))) : ab_go 1000 ab_M_L_law 257 [(3, .int 0), (2, .ref 82), (1, .ref 1), (0, .ref 0)] [] g p1_Q := by
  obtain ⟨a1, e1⟩ : ∃ a, xs 1 = a := ⟨_, rfl⟩
  obtain ⟨a2, e2⟩ : ∃ a, xs 2 = a := ⟨_, rfl⟩
  obtain ⟨a3, e3⟩ : ∃ a, xs 3 = a := ⟨_, rfl⟩
  obtain ⟨a4, e4⟩ : ∃ a, xs 4 = a := ⟨_, rfl⟩
  obtain ⟨a5, e5⟩ : ∃ a, xs 5 = a := ⟨_, rfl⟩
  refine go_s (pc' := 258) (lv' := [(3, .int 0), (2, .ref 82), (1, .ref 1), (0, .ref 0)]) (st' := [.ref 1]) rfl rfl rfl ?_
  refine go_c rfl rfl (ab_cal_v (As := []) (rest := []) rfl rfl rfl (ab_fo q p1_o_p1_Hx_1 (by decide)) rfl rfl rfl rfl) (lv0 := [(0, .ref 1)]) rfl (x_fault q ) (fun r0 g1 hr => ?_)
  obtain ⟨rfl, xp⟩ := hr
  have qm := p1_toM q hm xp
  have hs := p1_scr hs xp
  show ab_go 1000 ab_M_L_law 261 [(3, .int 0), (2, .ref 82), (1, .ref 1), (0, .ref 0)] [.int 0] g1 _
  refine go_s (pc' := 262) (lv' := [(3, .int 0), (2, .ref 82), (1, .ref 1), (0, .ref 0)]) (st' := [.ref 82, .int 0]) rfl rfl rfl ?_
  refine go_c rfl rfl (ab_cal_v (As := []) (rest := [.int 0]) rfl rfl rfl (ab_fo qm p1_o_p1_Hm_82 (by decide)) rfl rfl rfl rfl) (lv0 := [(0, .ref 82)]) rfl (m_fault qm ) (fun r0 g2 hr => ?_)
  obtain ⟨rfl, yp⟩ := hr
  have hs := p1_scr2 hs yp
  show ab_go 1000 ab_M_L_law 265 [(3, .int 0), (2, .ref 82), (1, .ref 1), (0, .ref 0)] [.int 0, .int 0] g2 _
  refine go_ict (tgt := 1038) rfl (by decide) (ab_cd_rf _) ?_
  exact p1_tail hs yp.1 yp.2.1
set_option maxHeartbeats 16000000 in
set_option maxRecDepth 20000 in
theorem p1_case_4 {g : ab_H} {xs : Nat → Int32} (q : ab_sim p1_Sx p1_Hx g) (hm : ∀ a, 81 < a → a < 120 → g.2.2 a = p1_H.2.2 a) (hs : ab_rd g 0 = some (.inl (0, 6, .inl xs))) : ab_go 1000 ab_M_L_law 270 [(3, .int 0), (2, .ref 82), (1, .ref 1), (0, .ref 0)] [] g p1_Q := by
  obtain ⟨a1, e1⟩ : ∃ a, xs 1 = a := ⟨_, rfl⟩
  obtain ⟨a2, e2⟩ : ∃ a, xs 2 = a := ⟨_, rfl⟩
  obtain ⟨a3, e3⟩ : ∃ a, xs 3 = a := ⟨_, rfl⟩
  obtain ⟨a4, e4⟩ : ∃ a, xs 4 = a := ⟨_, rfl⟩
  obtain ⟨a5, e5⟩ : ∃ a, xs 5 = a := ⟨_, rfl⟩
  refine go_s (pc' := 271) (lv' := [(3, .int 0), (2, .ref 82), (1, .ref 1), (0, .ref 0)]) (st' := [.ref 1]) rfl rfl rfl ?_
  refine go_s (pc' := 272) (lv' := [(3, .int 0), (2, .ref 82), (1, .ref 1), (0, .ref 0)]) (st' := [.ref 0, .ref 1]) rfl rfl rfl ?_
  refine go_s (pc' := 273) (lv' := [(3, .int 0), (2, .ref 82), (1, .ref 1), (0, .ref 0)]) (st' := [.int 0, .ref 0, .ref 1]) rfl rfl rfl ?_
  refine go_iconst (v := 1) rfl (by decide) ?_
  refine go_b2 (v := 1) rfl rfl (fun _ => rfl) (by decide) ?_
  refine go_ial (v := a1) rfl hs (by decide) e1 ?_
  refine go_s (pc' := 277) (lv' := [(3, .int 0), (2, .ref 82), (1, .ref 1), (0, .ref 0)]) (st' := [.ref 0, .int a1, .ref 1]) rfl rfl rfl ?_
  refine go_s (pc' := 278) (lv' := [(3, .int 0), (2, .ref 82), (1, .ref 1), (0, .ref 0)]) (st' := [.int 0, .ref 0, .int a1, .ref 1]) rfl rfl rfl ?_
  refine go_iconst (v := 2) rfl (by decide) ?_
  refine go_b2 (v := 2) rfl rfl (fun _ => rfl) (by decide) ?_
  refine go_ial (v := a2) rfl hs (by decide) e2 ?_
  refine go_c rfl rfl (ab_cal_v (As := [.int a1, .int a2]) (rest := []) rfl rfl rfl (ab_fo q p1_o_p1_Hx_1 (by decide)) rfl rfl rfl rfl) (lv0 := [(0, .ref 1), (1, .int a1), (2, .int a2)]) rfl (x_wire q a1 a2) (fun r0 g1 hr => ?_)
  obtain ⟨rfl, xp⟩ := hr
  have qm := p1_toM q hm xp
  have hs := p1_scr hs xp
  show ab_go 1000 ab_M_L_law 284 [(3, .int 0), (2, .ref 82), (1, .ref 1), (0, .ref 0)] [.int (-1)] g1 _
  refine go_s (pc' := 285) (lv' := [(3, .int 0), (2, .ref 82), (1, .ref 1), (0, .ref 0)]) (st' := [.ref 82, .int (-1)]) rfl rfl rfl ?_
  refine go_s (pc' := 286) (lv' := [(3, .int 0), (2, .ref 82), (1, .ref 1), (0, .ref 0)]) (st' := [.ref 0, .ref 82, .int (-1)]) rfl rfl rfl ?_
  refine go_s (pc' := 287) (lv' := [(3, .int 0), (2, .ref 82), (1, .ref 1), (0, .ref 0)]) (st' := [.int 0, .ref 0, .ref 82, .int (-1)]) rfl rfl rfl ?_
  refine go_iconst (v := 1) rfl (by decide) ?_
  refine go_b2 (v := 1) rfl rfl (fun _ => rfl) (by decide) ?_
  refine go_ial (v := a1) rfl hs (by decide) e1 ?_
  refine go_s (pc' := 291) (lv' := [(3, .int 0), (2, .ref 82), (1, .ref 1), (0, .ref 0)]) (st' := [.ref 0, .int a1, .ref 82, .int (-1)]) rfl rfl rfl ?_
  refine go_s (pc' := 292) (lv' := [(3, .int 0), (2, .ref 82), (1, .ref 1), (0, .ref 0)]) (st' := [.int 0, .ref 0, .int a1, .ref 82, .int (-1)]) rfl rfl rfl ?_
  refine go_iconst (v := 2) rfl (by decide) ?_
  refine go_b2 (v := 2) rfl rfl (fun _ => rfl) (by decide) ?_
  refine go_ial (v := a2) rfl hs (by decide) e2 ?_
  refine go_c rfl rfl (ab_cal_v (As := [.int a1, .int a2]) (rest := [.int (-1)]) rfl rfl rfl (ab_fo qm p1_o_p1_Hm_82 (by decide)) rfl rfl rfl rfl) (lv0 := [(0, .ref 82), (1, .int a1), (2, .int a2)]) rfl (m_wire qm a1 a2) (fun r0 g2 hr => ?_)
  obtain ⟨rfl, yp⟩ := hr
  have hs := p1_scr2 hs yp
  show ab_go 1000 ab_M_L_law 298 [(3, .int 0), (2, .ref 82), (1, .ref 1), (0, .ref 0)] [.int (-1), .int (-1)] g2 _
  refine go_ict (tgt := 1038) rfl (by decide) (ab_cd_rf _) ?_
  exact p1_tail hs yp.1 yp.2.1
set_option maxHeartbeats 16000000 in
set_option maxRecDepth 20000 in
theorem p1_case_5 {g : ab_H} {xs : Nat → Int32} (q : ab_sim p1_Sx p1_Hx g) (hm : ∀ a, 81 < a → a < 120 → g.2.2 a = p1_H.2.2 a) (hs : ab_rd g 0 = some (.inl (0, 6, .inl xs))) : ab_go 1000 ab_M_L_law 303 [(3, .int 0), (2, .ref 82), (1, .ref 1), (0, .ref 0)] [] g p1_Q := by
  obtain ⟨a1, e1⟩ : ∃ a, xs 1 = a := ⟨_, rfl⟩
  obtain ⟨a2, e2⟩ : ∃ a, xs 2 = a := ⟨_, rfl⟩
  obtain ⟨a3, e3⟩ : ∃ a, xs 3 = a := ⟨_, rfl⟩
  obtain ⟨a4, e4⟩ : ∃ a, xs 4 = a := ⟨_, rfl⟩
  obtain ⟨a5, e5⟩ : ∃ a, xs 5 = a := ⟨_, rfl⟩
  refine go_s (pc' := 304) (lv' := [(3, .int 0), (2, .ref 82), (1, .ref 1), (0, .ref 0)]) (st' := [.ref 1]) rfl rfl rfl ?_
  refine go_s (pc' := 305) (lv' := [(3, .int 0), (2, .ref 82), (1, .ref 1), (0, .ref 0)]) (st' := [.ref 0, .ref 1]) rfl rfl rfl ?_
  refine go_s (pc' := 306) (lv' := [(3, .int 0), (2, .ref 82), (1, .ref 1), (0, .ref 0)]) (st' := [.int 0, .ref 0, .ref 1]) rfl rfl rfl ?_
  refine go_iconst (v := 1) rfl (by decide) ?_
  refine go_b2 (v := 1) rfl rfl (fun _ => rfl) (by decide) ?_
  refine go_ial (v := a1) rfl hs (by decide) e1 ?_
  refine go_s (pc' := 310) (lv' := [(3, .int 0), (2, .ref 82), (1, .ref 1), (0, .ref 0)]) (st' := [.ref 0, .int a1, .ref 1]) rfl rfl rfl ?_
  refine go_s (pc' := 311) (lv' := [(3, .int 0), (2, .ref 82), (1, .ref 1), (0, .ref 0)]) (st' := [.int 0, .ref 0, .int a1, .ref 1]) rfl rfl rfl ?_
  refine go_iconst (v := 2) rfl (by decide) ?_
  refine go_b2 (v := 2) rfl rfl (fun _ => rfl) (by decide) ?_
  refine go_ial (v := a2) rfl hs (by decide) e2 ?_
  refine go_c rfl rfl (ab_cal_v (As := [.int a1, .int a2]) (rest := []) rfl rfl rfl (ab_fo q p1_o_p1_Hx_1 (by decide)) rfl rfl rfl rfl) (lv0 := [(0, .ref 1), (1, .int a1), (2, .int a2)]) rfl (x_event q a1 a2) (fun r0 g1 hr => ?_)
  obtain ⟨rfl, xp⟩ := hr
  have qm := p1_toM q hm xp
  have hs := p1_scr hs xp
  show ab_go 1000 ab_M_L_law 317 [(3, .int 0), (2, .ref 82), (1, .ref 1), (0, .ref 0)] [.int (-1)] g1 _
  refine go_s (pc' := 318) (lv' := [(3, .int 0), (2, .ref 82), (1, .ref 1), (0, .ref 0)]) (st' := [.ref 82, .int (-1)]) rfl rfl rfl ?_
  refine go_s (pc' := 319) (lv' := [(3, .int 0), (2, .ref 82), (1, .ref 1), (0, .ref 0)]) (st' := [.ref 0, .ref 82, .int (-1)]) rfl rfl rfl ?_
  refine go_s (pc' := 320) (lv' := [(3, .int 0), (2, .ref 82), (1, .ref 1), (0, .ref 0)]) (st' := [.int 0, .ref 0, .ref 82, .int (-1)]) rfl rfl rfl ?_
  refine go_iconst (v := 1) rfl (by decide) ?_
  refine go_b2 (v := 1) rfl rfl (fun _ => rfl) (by decide) ?_
  refine go_ial (v := a1) rfl hs (by decide) e1 ?_
  refine go_s (pc' := 324) (lv' := [(3, .int 0), (2, .ref 82), (1, .ref 1), (0, .ref 0)]) (st' := [.ref 0, .int a1, .ref 82, .int (-1)]) rfl rfl rfl ?_
  refine go_s (pc' := 325) (lv' := [(3, .int 0), (2, .ref 82), (1, .ref 1), (0, .ref 0)]) (st' := [.int 0, .ref 0, .int a1, .ref 82, .int (-1)]) rfl rfl rfl ?_
  refine go_iconst (v := 2) rfl (by decide) ?_
  refine go_b2 (v := 2) rfl rfl (fun _ => rfl) (by decide) ?_
  refine go_ial (v := a2) rfl hs (by decide) e2 ?_
  refine go_c rfl rfl (ab_cal_v (As := [.int a1, .int a2]) (rest := [.int (-1)]) rfl rfl rfl (ab_fo qm p1_o_p1_Hm_82 (by decide)) rfl rfl rfl rfl) (lv0 := [(0, .ref 82), (1, .int a1), (2, .int a2)]) rfl (m_event qm a1 a2) (fun r0 g2 hr => ?_)
  obtain ⟨rfl, yp⟩ := hr
  have hs := p1_scr2 hs yp
  show ab_go 1000 ab_M_L_law 331 [(3, .int 0), (2, .ref 82), (1, .ref 1), (0, .ref 0)] [.int (-1), .int (-1)] g2 _
  refine go_ict (tgt := 1038) rfl (by decide) (ab_cd_rf _) ?_
  exact p1_tail hs yp.1 yp.2.1
set_option maxHeartbeats 16000000 in
set_option maxRecDepth 20000 in
theorem p1_case_6 {g : ab_H} {xs : Nat → Int32} (q : ab_sim p1_Sx p1_Hx g) (hm : ∀ a, 81 < a → a < 120 → g.2.2 a = p1_H.2.2 a) (hs : ab_rd g 0 = some (.inl (0, 6, .inl xs))) : ab_go 1000 ab_M_L_law 336 [(3, .int 0), (2, .ref 82), (1, .ref 1), (0, .ref 0)] [] g p1_Q := by
  obtain ⟨a1, e1⟩ : ∃ a, xs 1 = a := ⟨_, rfl⟩
  obtain ⟨a2, e2⟩ : ∃ a, xs 2 = a := ⟨_, rfl⟩
  obtain ⟨a3, e3⟩ : ∃ a, xs 3 = a := ⟨_, rfl⟩
  obtain ⟨a4, e4⟩ : ∃ a, xs 4 = a := ⟨_, rfl⟩
  obtain ⟨a5, e5⟩ : ∃ a, xs 5 = a := ⟨_, rfl⟩
  refine go_s (pc' := 337) (lv' := [(3, .int 0), (2, .ref 82), (1, .ref 1), (0, .ref 0)]) (st' := [.ref 1]) rfl rfl rfl ?_
  refine go_s (pc' := 338) (lv' := [(3, .int 0), (2, .ref 82), (1, .ref 1), (0, .ref 0)]) (st' := [.ref 0, .ref 1]) rfl rfl rfl ?_
  refine go_s (pc' := 339) (lv' := [(3, .int 0), (2, .ref 82), (1, .ref 1), (0, .ref 0)]) (st' := [.int 0, .ref 0, .ref 1]) rfl rfl rfl ?_
  refine go_iconst (v := 1) rfl (by decide) ?_
  refine go_b2 (v := 1) rfl rfl (fun _ => rfl) (by decide) ?_
  refine go_ial (v := a1) rfl hs (by decide) e1 ?_
  refine go_s (pc' := 343) (lv' := [(3, .int 0), (2, .ref 82), (1, .ref 1), (0, .ref 0)]) (st' := [.ref 0, .int a1, .ref 1]) rfl rfl rfl ?_
  refine go_s (pc' := 344) (lv' := [(3, .int 0), (2, .ref 82), (1, .ref 1), (0, .ref 0)]) (st' := [.int 0, .ref 0, .int a1, .ref 1]) rfl rfl rfl ?_
  refine go_iconst (v := 2) rfl (by decide) ?_
  refine go_b2 (v := 2) rfl rfl (fun _ => rfl) (by decide) ?_
  refine go_ial (v := a2) rfl hs (by decide) e2 ?_
  refine go_c rfl rfl (ab_cal_v (As := [.int a1, .int a2]) (rest := []) rfl rfl rfl (ab_fo q p1_o_p1_Hx_1 (by decide)) rfl rfl rfl rfl) (lv0 := [(0, .ref 1), (1, .int a1), (2, .int a2)]) rfl (x_place q a1 a2) (fun r0 g1 hr => ?_)
  obtain ⟨rfl, xp⟩ := hr
  have qm := p1_toM q hm xp
  have hs := p1_scr hs xp
  show ab_go 1000 ab_M_L_law 350 [(3, .int 0), (2, .ref 82), (1, .ref 1), (0, .ref 0)] [.int (-1)] g1 _
  refine go_s (pc' := 351) (lv' := [(3, .int 0), (2, .ref 82), (1, .ref 1), (0, .ref 0)]) (st' := [.ref 82, .int (-1)]) rfl rfl rfl ?_
  refine go_s (pc' := 352) (lv' := [(3, .int 0), (2, .ref 82), (1, .ref 1), (0, .ref 0)]) (st' := [.ref 0, .ref 82, .int (-1)]) rfl rfl rfl ?_
  refine go_s (pc' := 353) (lv' := [(3, .int 0), (2, .ref 82), (1, .ref 1), (0, .ref 0)]) (st' := [.int 0, .ref 0, .ref 82, .int (-1)]) rfl rfl rfl ?_
  refine go_iconst (v := 1) rfl (by decide) ?_
  refine go_b2 (v := 1) rfl rfl (fun _ => rfl) (by decide) ?_
  refine go_ial (v := a1) rfl hs (by decide) e1 ?_
  refine go_s (pc' := 357) (lv' := [(3, .int 0), (2, .ref 82), (1, .ref 1), (0, .ref 0)]) (st' := [.ref 0, .int a1, .ref 82, .int (-1)]) rfl rfl rfl ?_
  refine go_s (pc' := 358) (lv' := [(3, .int 0), (2, .ref 82), (1, .ref 1), (0, .ref 0)]) (st' := [.int 0, .ref 0, .int a1, .ref 82, .int (-1)]) rfl rfl rfl ?_
  refine go_iconst (v := 2) rfl (by decide) ?_
  refine go_b2 (v := 2) rfl rfl (fun _ => rfl) (by decide) ?_
  refine go_ial (v := a2) rfl hs (by decide) e2 ?_
  refine go_c rfl rfl (ab_cal_v (As := [.int a1, .int a2]) (rest := [.int (-1)]) rfl rfl rfl (ab_fo qm p1_o_p1_Hm_82 (by decide)) rfl rfl rfl rfl) (lv0 := [(0, .ref 82), (1, .int a1), (2, .int a2)]) rfl (m_place qm a1 a2) (fun r0 g2 hr => ?_)
  obtain ⟨rfl, yp⟩ := hr
  have hs := p1_scr2 hs yp
  show ab_go 1000 ab_M_L_law 364 [(3, .int 0), (2, .ref 82), (1, .ref 1), (0, .ref 0)] [.int (-1), .int (-1)] g2 _
  refine go_ict (tgt := 1038) rfl (by decide) (ab_cd_rf _) ?_
  exact p1_tail hs yp.1 yp.2.1
set_option maxHeartbeats 16000000 in
set_option maxRecDepth 20000 in
theorem p1_case_7 {g : ab_H} {xs : Nat → Int32} (q : ab_sim p1_Sx p1_Hx g) (hm : ∀ a, 81 < a → a < 120 → g.2.2 a = p1_H.2.2 a) (hs : ab_rd g 0 = some (.inl (0, 6, .inl xs))) : ab_go 1000 ab_M_L_law 369 [(3, .int 0), (2, .ref 82), (1, .ref 1), (0, .ref 0)] [] g p1_Q := by
  obtain ⟨a1, e1⟩ : ∃ a, xs 1 = a := ⟨_, rfl⟩
  obtain ⟨a2, e2⟩ : ∃ a, xs 2 = a := ⟨_, rfl⟩
  obtain ⟨a3, e3⟩ : ∃ a, xs 3 = a := ⟨_, rfl⟩
  obtain ⟨a4, e4⟩ : ∃ a, xs 4 = a := ⟨_, rfl⟩
  obtain ⟨a5, e5⟩ : ∃ a, xs 5 = a := ⟨_, rfl⟩
  refine go_s (pc' := 370) (lv' := [(3, .int 0), (2, .ref 82), (1, .ref 1), (0, .ref 0)]) (st' := [.ref 1]) rfl rfl rfl ?_
  refine go_c rfl rfl (ab_cal_v (As := []) (rest := []) rfl rfl rfl (ab_fo q p1_o_p1_Hx_1 (by decide)) rfl rfl rfl rfl) (lv0 := [(0, .ref 1)]) rfl (x_states q ) (fun r0 g1 hr => ?_)
  obtain ⟨rfl, xp⟩ := hr
  have qm := p1_toM q hm xp
  have hs := p1_scr hs xp
  show ab_go 1000 ab_M_L_law 373 [(3, .int 0), (2, .ref 82), (1, .ref 1), (0, .ref 0)] [.int 1] g1 _
  refine go_s (pc' := 374) (lv' := [(3, .int 0), (2, .ref 82), (1, .ref 1), (0, .ref 0)]) (st' := [.ref 82, .int 1]) rfl rfl rfl ?_
  refine go_c rfl rfl (ab_cal_v (As := []) (rest := [.int 1]) rfl rfl rfl (ab_fo qm p1_o_p1_Hm_82 (by decide)) rfl rfl rfl rfl) (lv0 := [(0, .ref 82)]) rfl (m_states qm ) (fun r0 g2 hr => ?_)
  obtain ⟨rfl, yp⟩ := hr
  have hs := p1_scr2 hs yp
  show ab_go 1000 ab_M_L_law 377 [(3, .int 0), (2, .ref 82), (1, .ref 1), (0, .ref 0)] [.int 1, .int 1] g2 _
  refine go_ict (tgt := 1038) rfl (by decide) (ab_cd_rf _) ?_
  exact p1_tail hs yp.1 yp.2.1
set_option maxHeartbeats 16000000 in
set_option maxRecDepth 20000 in
theorem p1_case_8 {g : ab_H} {xs : Nat → Int32} (q : ab_sim p1_Sx p1_Hx g) (hm : ∀ a, 81 < a → a < 120 → g.2.2 a = p1_H.2.2 a) (hs : ab_rd g 0 = some (.inl (0, 6, .inl xs))) : ab_go 1000 ab_M_L_law 382 [(3, .int 0), (2, .ref 82), (1, .ref 1), (0, .ref 0)] [] g p1_Q := by
  obtain ⟨a1, e1⟩ : ∃ a, xs 1 = a := ⟨_, rfl⟩
  obtain ⟨a2, e2⟩ : ∃ a, xs 2 = a := ⟨_, rfl⟩
  obtain ⟨a3, e3⟩ : ∃ a, xs 3 = a := ⟨_, rfl⟩
  obtain ⟨a4, e4⟩ : ∃ a, xs 4 = a := ⟨_, rfl⟩
  obtain ⟨a5, e5⟩ : ∃ a, xs 5 = a := ⟨_, rfl⟩
  refine go_s (pc' := 383) (lv' := [(3, .int 0), (2, .ref 82), (1, .ref 1), (0, .ref 0)]) (st' := [.ref 1]) rfl rfl rfl ?_
  refine go_c rfl rfl (ab_cal_v (As := []) (rest := []) rfl rfl rfl (ab_fo q p1_o_p1_Hx_1 (by decide)) rfl rfl rfl rfl) (lv0 := [(0, .ref 1)]) rfl (x_right q ) (fun r0 g1 hr => ?_)
  obtain ⟨rfl, xp⟩ := hr
  have qm := p1_toM q hm xp
  have hs := p1_scr hs xp
  show ab_go 1000 ab_M_L_law 386 [(3, .int 0), (2, .ref 82), (1, .ref 1), (0, .ref 0)] [.int 1] g1 _
  refine go_s (pc' := 387) (lv' := [(3, .int 0), (2, .ref 82), (1, .ref 1), (0, .ref 0)]) (st' := [.ref 82, .int 1]) rfl rfl rfl ?_
  refine go_c rfl rfl (ab_cal_v (As := []) (rest := [.int 1]) rfl rfl rfl (ab_fo qm p1_o_p1_Hm_82 (by decide)) rfl rfl rfl rfl) (lv0 := [(0, .ref 82)]) rfl (m_right qm ) (fun r0 g2 hr => ?_)
  obtain ⟨rfl, yp⟩ := hr
  have hs := p1_scr2 hs yp
  show ab_go 1000 ab_M_L_law 390 [(3, .int 0), (2, .ref 82), (1, .ref 1), (0, .ref 0)] [.int 1, .int 1] g2 _
  refine go_ict (tgt := 1038) rfl (by decide) (ab_cd_rf _) ?_
  exact p1_tail hs yp.1 yp.2.1
set_option maxHeartbeats 16000000 in
set_option maxRecDepth 20000 in
theorem p1_case_9 {g : ab_H} {xs : Nat → Int32} (q : ab_sim p1_Sx p1_Hx g) (hm : ∀ a, 81 < a → a < 120 → g.2.2 a = p1_H.2.2 a) (hs : ab_rd g 0 = some (.inl (0, 6, .inl xs))) : ab_go 1000 ab_M_L_law 395 [(3, .int 0), (2, .ref 82), (1, .ref 1), (0, .ref 0)] [] g p1_Q := by
  obtain ⟨a1, e1⟩ : ∃ a, xs 1 = a := ⟨_, rfl⟩
  obtain ⟨a2, e2⟩ : ∃ a, xs 2 = a := ⟨_, rfl⟩
  obtain ⟨a3, e3⟩ : ∃ a, xs 3 = a := ⟨_, rfl⟩
  obtain ⟨a4, e4⟩ : ∃ a, xs 4 = a := ⟨_, rfl⟩
  obtain ⟨a5, e5⟩ : ∃ a, xs 5 = a := ⟨_, rfl⟩
  refine go_s (pc' := 396) (lv' := [(3, .int 0), (2, .ref 82), (1, .ref 1), (0, .ref 0)]) (st' := [.ref 1]) rfl rfl rfl ?_
  refine go_s (pc' := 397) (lv' := [(3, .int 0), (2, .ref 82), (1, .ref 1), (0, .ref 0)]) (st' := [.ref 0, .ref 1]) rfl rfl rfl ?_
  refine go_s (pc' := 398) (lv' := [(3, .int 0), (2, .ref 82), (1, .ref 1), (0, .ref 0)]) (st' := [.int 0, .ref 0, .ref 1]) rfl rfl rfl ?_
  refine go_iconst (v := 1) rfl (by decide) ?_
  refine go_b2 (v := 1) rfl rfl (fun _ => rfl) (by decide) ?_
  refine go_ial (v := a1) rfl hs (by decide) e1 ?_
  refine go_s (pc' := 402) (lv' := [(3, .int 0), (2, .ref 82), (1, .ref 1), (0, .ref 0)]) (st' := [.ref 0, .int a1, .ref 1]) rfl rfl rfl ?_
  refine go_s (pc' := 403) (lv' := [(3, .int 0), (2, .ref 82), (1, .ref 1), (0, .ref 0)]) (st' := [.int 0, .ref 0, .int a1, .ref 1]) rfl rfl rfl ?_
  refine go_iconst (v := 2) rfl (by decide) ?_
  refine go_b2 (v := 2) rfl rfl (fun _ => rfl) (by decide) ?_
  refine go_ial (v := a2) rfl hs (by decide) e2 ?_
  refine go_c rfl rfl (ab_cal_v (As := [.int a1, .int a2]) (rest := []) rfl rfl rfl (ab_fo q p1_o_p1_Hx_1 (by decide)) rfl rfl rfl rfl) (lv0 := [(0, .ref 1), (1, .int a1), (2, .int a2)]) rfl (x_of q a1 a2) (fun r0 g1 hr => ?_)
  obtain ⟨rfl, xp⟩ := hr
  have qm := p1_toM q hm xp
  have hs := p1_scr hs xp
  show ab_go 1000 ab_M_L_law 409 [(3, .int 0), (2, .ref 82), (1, .ref 1), (0, .ref 0)] [.int (an_of a1 a2)] g1 _
  refine go_s (pc' := 410) (lv' := [(3, .int 0), (2, .ref 82), (1, .ref 1), (0, .ref 0)]) (st' := [.ref 82, .int (an_of a1 a2)]) rfl rfl rfl ?_
  refine go_s (pc' := 411) (lv' := [(3, .int 0), (2, .ref 82), (1, .ref 1), (0, .ref 0)]) (st' := [.ref 0, .ref 82, .int (an_of a1 a2)]) rfl rfl rfl ?_
  refine go_s (pc' := 412) (lv' := [(3, .int 0), (2, .ref 82), (1, .ref 1), (0, .ref 0)]) (st' := [.int 0, .ref 0, .ref 82, .int (an_of a1 a2)]) rfl rfl rfl ?_
  refine go_iconst (v := 1) rfl (by decide) ?_
  refine go_b2 (v := 1) rfl rfl (fun _ => rfl) (by decide) ?_
  refine go_ial (v := a1) rfl hs (by decide) e1 ?_
  refine go_s (pc' := 416) (lv' := [(3, .int 0), (2, .ref 82), (1, .ref 1), (0, .ref 0)]) (st' := [.ref 0, .int a1, .ref 82, .int (an_of a1 a2)]) rfl rfl rfl ?_
  refine go_s (pc' := 417) (lv' := [(3, .int 0), (2, .ref 82), (1, .ref 1), (0, .ref 0)]) (st' := [.int 0, .ref 0, .int a1, .ref 82, .int (an_of a1 a2)]) rfl rfl rfl ?_
  refine go_iconst (v := 2) rfl (by decide) ?_
  refine go_b2 (v := 2) rfl rfl (fun _ => rfl) (by decide) ?_
  refine go_ial (v := a2) rfl hs (by decide) e2 ?_
  refine go_c rfl rfl (ab_cal_v (As := [.int a1, .int a2]) (rest := [.int (an_of a1 a2)]) rfl rfl rfl (ab_fo qm p1_o_p1_Hm_82 (by decide)) rfl rfl rfl rfl) (lv0 := [(0, .ref 82), (1, .int a1), (2, .int a2)]) rfl (m_of qm a1 a2) (fun r0 g2 hr => ?_)
  obtain ⟨rfl, yp⟩ := hr
  have hs := p1_scr2 hs yp
  show ab_go 1000 ab_M_L_law 423 [(3, .int 0), (2, .ref 82), (1, .ref 1), (0, .ref 0)] [.int (an_of a1 a2), .int (an_of a1 a2)] g2 _
  refine go_ict (tgt := 1038) rfl (by decide) (ab_cd_rf _) ?_
  exact p1_tail hs yp.1 yp.2.1
set_option maxHeartbeats 16000000 in
set_option maxRecDepth 20000 in
theorem p1_case_10 {g : ab_H} {xs : Nat → Int32} (q : ab_sim p1_Sx p1_Hx g) (hm : ∀ a, 81 < a → a < 120 → g.2.2 a = p1_H.2.2 a) (hs : ab_rd g 0 = some (.inl (0, 6, .inl xs))) : ab_go 1000 ab_M_L_law 428 [(3, .int 0), (2, .ref 82), (1, .ref 1), (0, .ref 0)] [] g p1_Q := by
  obtain ⟨a1, e1⟩ : ∃ a, xs 1 = a := ⟨_, rfl⟩
  obtain ⟨a2, e2⟩ : ∃ a, xs 2 = a := ⟨_, rfl⟩
  obtain ⟨a3, e3⟩ : ∃ a, xs 3 = a := ⟨_, rfl⟩
  obtain ⟨a4, e4⟩ : ∃ a, xs 4 = a := ⟨_, rfl⟩
  obtain ⟨a5, e5⟩ : ∃ a, xs 5 = a := ⟨_, rfl⟩
  refine go_s (pc' := 429) (lv' := [(3, .int 0), (2, .ref 82), (1, .ref 1), (0, .ref 0)]) (st' := [.ref 1]) rfl rfl rfl ?_
  refine go_s (pc' := 430) (lv' := [(3, .int 0), (2, .ref 82), (1, .ref 1), (0, .ref 0)]) (st' := [.ref 0, .ref 1]) rfl rfl rfl ?_
  refine go_s (pc' := 431) (lv' := [(3, .int 0), (2, .ref 82), (1, .ref 1), (0, .ref 0)]) (st' := [.int 0, .ref 0, .ref 1]) rfl rfl rfl ?_
  refine go_iconst (v := 1) rfl (by decide) ?_
  refine go_b2 (v := 1) rfl rfl (fun _ => rfl) (by decide) ?_
  refine go_ial (v := a1) rfl hs (by decide) e1 ?_
  refine go_c rfl rfl (ab_cal_v (As := [.int a1]) (rest := []) rfl rfl rfl (ab_fo q p1_o_p1_Hx_1 (by decide)) rfl rfl rfl rfl) (lv0 := [(0, .ref 1), (1, .int a1)]) rfl (x_quarrels q a1) (fun r0 g1 hr => ?_)
  obtain ⟨rfl, xp⟩ := hr
  have qm := p1_toM q hm xp
  have hs := p1_scr hs xp
  show ab_go 1000 ab_M_L_law 437 [(3, .int 0), (2, .ref 82), (1, .ref 1), (0, .ref 0)] [.int (an_quarrels a1)] g1 _
  refine go_s (pc' := 438) (lv' := [(3, .int 0), (2, .ref 82), (1, .ref 1), (0, .ref 0)]) (st' := [.ref 82, .int (an_quarrels a1)]) rfl rfl rfl ?_
  refine go_s (pc' := 439) (lv' := [(3, .int 0), (2, .ref 82), (1, .ref 1), (0, .ref 0)]) (st' := [.ref 0, .ref 82, .int (an_quarrels a1)]) rfl rfl rfl ?_
  refine go_s (pc' := 440) (lv' := [(3, .int 0), (2, .ref 82), (1, .ref 1), (0, .ref 0)]) (st' := [.int 0, .ref 0, .ref 82, .int (an_quarrels a1)]) rfl rfl rfl ?_
  refine go_iconst (v := 1) rfl (by decide) ?_
  refine go_b2 (v := 1) rfl rfl (fun _ => rfl) (by decide) ?_
  refine go_ial (v := a1) rfl hs (by decide) e1 ?_
  refine go_c rfl rfl (ab_cal_v (As := [.int a1]) (rest := [.int (an_quarrels a1)]) rfl rfl rfl (ab_fo qm p1_o_p1_Hm_82 (by decide)) rfl rfl rfl rfl) (lv0 := [(0, .ref 82), (1, .int a1)]) rfl (m_quarrels qm a1) (fun r0 g2 hr => ?_)
  obtain ⟨rfl, yp⟩ := hr
  have hs := p1_scr2 hs yp
  show ab_go 1000 ab_M_L_law 446 [(3, .int 0), (2, .ref 82), (1, .ref 1), (0, .ref 0)] [.int (an_quarrels a1), .int (an_quarrels a1)] g2 _
  refine go_ict (tgt := 1038) rfl (by decide) (ab_cd_rf _) ?_
  exact p1_tail hs yp.1 yp.2.1
set_option maxHeartbeats 16000000 in
set_option maxRecDepth 20000 in
theorem p1_case_11 {g : ab_H} {xs : Nat → Int32} (q : ab_sim p1_Sx p1_Hx g) (hm : ∀ a, 81 < a → a < 120 → g.2.2 a = p1_H.2.2 a) (hs : ab_rd g 0 = some (.inl (0, 6, .inl xs))) : ab_go 1000 ab_M_L_law 451 [(3, .int 0), (2, .ref 82), (1, .ref 1), (0, .ref 0)] [] g p1_Q := by
  obtain ⟨a1, e1⟩ : ∃ a, xs 1 = a := ⟨_, rfl⟩
  obtain ⟨a2, e2⟩ : ∃ a, xs 2 = a := ⟨_, rfl⟩
  obtain ⟨a3, e3⟩ : ∃ a, xs 3 = a := ⟨_, rfl⟩
  obtain ⟨a4, e4⟩ : ∃ a, xs 4 = a := ⟨_, rfl⟩
  obtain ⟨a5, e5⟩ : ∃ a, xs 5 = a := ⟨_, rfl⟩
  refine go_s (pc' := 452) (lv' := [(3, .int 0), (2, .ref 82), (1, .ref 1), (0, .ref 0)]) (st' := [.ref 1]) rfl rfl rfl ?_
  refine go_s (pc' := 453) (lv' := [(3, .int 0), (2, .ref 82), (1, .ref 1), (0, .ref 0)]) (st' := [.ref 0, .ref 1]) rfl rfl rfl ?_
  refine go_s (pc' := 454) (lv' := [(3, .int 0), (2, .ref 82), (1, .ref 1), (0, .ref 0)]) (st' := [.int 0, .ref 0, .ref 1]) rfl rfl rfl ?_
  refine go_iconst (v := 1) rfl (by decide) ?_
  refine go_b2 (v := 1) rfl rfl (fun _ => rfl) (by decide) ?_
  refine go_ial (v := a1) rfl hs (by decide) e1 ?_
  refine go_c rfl rfl (ab_cal_v (As := [.int a1]) (rest := []) rfl rfl rfl (ab_fo q p1_o_p1_Hx_1 (by decide)) rfl rfl rfl rfl) (lv0 := [(0, .ref 1), (1, .int a1)]) rfl (x_back q a1) (fun r0 g1 hr => ?_)
  obtain ⟨rfl, xp⟩ := hr
  have qm := p1_toM q hm xp
  have hs := p1_scr hs xp
  show ab_go 1000 ab_M_L_law 460 [(3, .int 0), (2, .ref 82), (1, .ref 1), (0, .ref 0)] [.int (an_back a1)] g1 _
  refine go_s (pc' := 461) (lv' := [(3, .int 0), (2, .ref 82), (1, .ref 1), (0, .ref 0)]) (st' := [.ref 82, .int (an_back a1)]) rfl rfl rfl ?_
  refine go_s (pc' := 462) (lv' := [(3, .int 0), (2, .ref 82), (1, .ref 1), (0, .ref 0)]) (st' := [.ref 0, .ref 82, .int (an_back a1)]) rfl rfl rfl ?_
  refine go_s (pc' := 463) (lv' := [(3, .int 0), (2, .ref 82), (1, .ref 1), (0, .ref 0)]) (st' := [.int 0, .ref 0, .ref 82, .int (an_back a1)]) rfl rfl rfl ?_
  refine go_iconst (v := 1) rfl (by decide) ?_
  refine go_b2 (v := 1) rfl rfl (fun _ => rfl) (by decide) ?_
  refine go_ial (v := a1) rfl hs (by decide) e1 ?_
  refine go_c rfl rfl (ab_cal_v (As := [.int a1]) (rest := [.int (an_back a1)]) rfl rfl rfl (ab_fo qm p1_o_p1_Hm_82 (by decide)) rfl rfl rfl rfl) (lv0 := [(0, .ref 82), (1, .int a1)]) rfl (m_back qm a1) (fun r0 g2 hr => ?_)
  obtain ⟨rfl, yp⟩ := hr
  have hs := p1_scr2 hs yp
  show ab_go 1000 ab_M_L_law 469 [(3, .int 0), (2, .ref 82), (1, .ref 1), (0, .ref 0)] [.int (an_back a1), .int (an_back a1)] g2 _
  refine go_ict (tgt := 1038) rfl (by decide) (ab_cd_rf _) ?_
  exact p1_tail hs yp.1 yp.2.1
set_option maxHeartbeats 16000000 in
set_option maxRecDepth 20000 in
theorem p1_case_12 {g : ab_H} {xs : Nat → Int32} (q : ab_sim p1_Sx p1_Hx g) (hm : ∀ a, 81 < a → a < 120 → g.2.2 a = p1_H.2.2 a) (hs : ab_rd g 0 = some (.inl (0, 6, .inl xs))) : ab_go 1000 ab_M_L_law 474 [(3, .int 0), (2, .ref 82), (1, .ref 1), (0, .ref 0)] [] g p1_Q := by
  obtain ⟨a1, e1⟩ : ∃ a, xs 1 = a := ⟨_, rfl⟩
  obtain ⟨a2, e2⟩ : ∃ a, xs 2 = a := ⟨_, rfl⟩
  obtain ⟨a3, e3⟩ : ∃ a, xs 3 = a := ⟨_, rfl⟩
  obtain ⟨a4, e4⟩ : ∃ a, xs 4 = a := ⟨_, rfl⟩
  obtain ⟨a5, e5⟩ : ∃ a, xs 5 = a := ⟨_, rfl⟩
  refine go_s (pc' := 475) (lv' := [(3, .int 0), (2, .ref 82), (1, .ref 1), (0, .ref 0)]) (st' := [.ref 1]) rfl rfl rfl ?_
  refine go_s (pc' := 476) (lv' := [(3, .int 0), (2, .ref 82), (1, .ref 1), (0, .ref 0)]) (st' := [.ref 0, .ref 1]) rfl rfl rfl ?_
  refine go_s (pc' := 477) (lv' := [(3, .int 0), (2, .ref 82), (1, .ref 1), (0, .ref 0)]) (st' := [.int 0, .ref 0, .ref 1]) rfl rfl rfl ?_
  refine go_iconst (v := 1) rfl (by decide) ?_
  refine go_b2 (v := 1) rfl rfl (fun _ => rfl) (by decide) ?_
  refine go_ial (v := a1) rfl hs (by decide) e1 ?_
  refine go_c rfl rfl (ab_cal_v (As := [.int a1]) (rest := []) rfl rfl rfl (ab_fo q p1_o_p1_Hx_1 (by decide)) rfl rfl rfl rfl) (lv0 := [(0, .ref 1), (1, .int a1)]) rfl (x_stuck q a1) (fun r0 g1 hr => ?_)
  obtain ⟨rfl, xp⟩ := hr
  have qm := p1_toM q hm xp
  have hs := p1_scr hs xp
  show ab_go 1000 ab_M_L_law 483 [(3, .int 0), (2, .ref 82), (1, .ref 1), (0, .ref 0)] [.int (an_stuck a1)] g1 _
  refine go_s (pc' := 484) (lv' := [(3, .int 0), (2, .ref 82), (1, .ref 1), (0, .ref 0)]) (st' := [.ref 82, .int (an_stuck a1)]) rfl rfl rfl ?_
  refine go_s (pc' := 485) (lv' := [(3, .int 0), (2, .ref 82), (1, .ref 1), (0, .ref 0)]) (st' := [.ref 0, .ref 82, .int (an_stuck a1)]) rfl rfl rfl ?_
  refine go_s (pc' := 486) (lv' := [(3, .int 0), (2, .ref 82), (1, .ref 1), (0, .ref 0)]) (st' := [.int 0, .ref 0, .ref 82, .int (an_stuck a1)]) rfl rfl rfl ?_
  refine go_iconst (v := 1) rfl (by decide) ?_
  refine go_b2 (v := 1) rfl rfl (fun _ => rfl) (by decide) ?_
  refine go_ial (v := a1) rfl hs (by decide) e1 ?_
  refine go_c rfl rfl (ab_cal_v (As := [.int a1]) (rest := [.int (an_stuck a1)]) rfl rfl rfl (ab_fo qm p1_o_p1_Hm_82 (by decide)) rfl rfl rfl rfl) (lv0 := [(0, .ref 82), (1, .int a1)]) rfl (m_stuck qm a1) (fun r0 g2 hr => ?_)
  obtain ⟨rfl, yp⟩ := hr
  have hs := p1_scr2 hs yp
  show ab_go 1000 ab_M_L_law 492 [(3, .int 0), (2, .ref 82), (1, .ref 1), (0, .ref 0)] [.int (an_stuck a1), .int (an_stuck a1)] g2 _
  refine go_ict (tgt := 1038) rfl (by decide) (ab_cd_rf _) ?_
  exact p1_tail hs yp.1 yp.2.1
set_option maxHeartbeats 16000000 in
set_option maxRecDepth 20000 in
theorem p1_case_13 {g : ab_H} {xs : Nat → Int32} (q : ab_sim p1_Sx p1_Hx g) (hm : ∀ a, 81 < a → a < 120 → g.2.2 a = p1_H.2.2 a) (hs : ab_rd g 0 = some (.inl (0, 6, .inl xs))) : ab_go 1000 ab_M_L_law 497 [(3, .int 0), (2, .ref 82), (1, .ref 1), (0, .ref 0)] [] g p1_Q := by
  obtain ⟨a1, e1⟩ : ∃ a, xs 1 = a := ⟨_, rfl⟩
  obtain ⟨a2, e2⟩ : ∃ a, xs 2 = a := ⟨_, rfl⟩
  obtain ⟨a3, e3⟩ : ∃ a, xs 3 = a := ⟨_, rfl⟩
  obtain ⟨a4, e4⟩ : ∃ a, xs 4 = a := ⟨_, rfl⟩
  obtain ⟨a5, e5⟩ : ∃ a, xs 5 = a := ⟨_, rfl⟩
  refine go_s (pc' := 498) (lv' := [(3, .int 0), (2, .ref 82), (1, .ref 1), (0, .ref 0)]) (st' := [.ref 1]) rfl rfl rfl ?_
  refine go_s (pc' := 499) (lv' := [(3, .int 0), (2, .ref 82), (1, .ref 1), (0, .ref 0)]) (st' := [.ref 0, .ref 1]) rfl rfl rfl ?_
  refine go_s (pc' := 500) (lv' := [(3, .int 0), (2, .ref 82), (1, .ref 1), (0, .ref 0)]) (st' := [.int 0, .ref 0, .ref 1]) rfl rfl rfl ?_
  refine go_iconst (v := 1) rfl (by decide) ?_
  refine go_b2 (v := 1) rfl rfl (fun _ => rfl) (by decide) ?_
  refine go_ial (v := a1) rfl hs (by decide) e1 ?_
  refine go_s (pc' := 504) (lv' := [(3, .int 0), (2, .ref 82), (1, .ref 1), (0, .ref 0)]) (st' := [.ref 0, .int a1, .ref 1]) rfl rfl rfl ?_
  refine go_s (pc' := 505) (lv' := [(3, .int 0), (2, .ref 82), (1, .ref 1), (0, .ref 0)]) (st' := [.int 0, .ref 0, .int a1, .ref 1]) rfl rfl rfl ?_
  refine go_iconst (v := 2) rfl (by decide) ?_
  refine go_b2 (v := 2) rfl rfl (fun _ => rfl) (by decide) ?_
  refine go_ial (v := a2) rfl hs (by decide) e2 ?_
  refine go_c rfl rfl (ab_cal_v (As := [.int a1, .int a2]) (rest := []) rfl rfl rfl (ab_fo q p1_o_p1_Hx_1 (by decide)) rfl rfl rfl rfl) (lv0 := [(0, .ref 1), (1, .int a1), (2, .int a2)]) rfl (x_aim q a1 a2) (fun r0 g1 hr => ?_)
  obtain ⟨rfl, xp⟩ := hr
  have qm := p1_toM q hm xp
  have hs := p1_scr hs xp
  show ab_go 1000 ab_M_L_law 511 [(3, .int 0), (2, .ref 82), (1, .ref 1), (0, .ref 0)] [.int (-1)] g1 _
  refine go_s (pc' := 512) (lv' := [(3, .int 0), (2, .ref 82), (1, .ref 1), (0, .ref 0)]) (st' := [.ref 82, .int (-1)]) rfl rfl rfl ?_
  refine go_s (pc' := 513) (lv' := [(3, .int 0), (2, .ref 82), (1, .ref 1), (0, .ref 0)]) (st' := [.ref 0, .ref 82, .int (-1)]) rfl rfl rfl ?_
  refine go_s (pc' := 514) (lv' := [(3, .int 0), (2, .ref 82), (1, .ref 1), (0, .ref 0)]) (st' := [.int 0, .ref 0, .ref 82, .int (-1)]) rfl rfl rfl ?_
  refine go_iconst (v := 1) rfl (by decide) ?_
  refine go_b2 (v := 1) rfl rfl (fun _ => rfl) (by decide) ?_
  refine go_ial (v := a1) rfl hs (by decide) e1 ?_
  refine go_s (pc' := 518) (lv' := [(3, .int 0), (2, .ref 82), (1, .ref 1), (0, .ref 0)]) (st' := [.ref 0, .int a1, .ref 82, .int (-1)]) rfl rfl rfl ?_
  refine go_s (pc' := 519) (lv' := [(3, .int 0), (2, .ref 82), (1, .ref 1), (0, .ref 0)]) (st' := [.int 0, .ref 0, .int a1, .ref 82, .int (-1)]) rfl rfl rfl ?_
  refine go_iconst (v := 2) rfl (by decide) ?_
  refine go_b2 (v := 2) rfl rfl (fun _ => rfl) (by decide) ?_
  refine go_ial (v := a2) rfl hs (by decide) e2 ?_
  refine go_c rfl rfl (ab_cal_v (As := [.int a1, .int a2]) (rest := [.int (-1)]) rfl rfl rfl (ab_fo qm p1_o_p1_Hm_82 (by decide)) rfl rfl rfl rfl) (lv0 := [(0, .ref 82), (1, .int a1), (2, .int a2)]) rfl (m_aim qm a1 a2) (fun r0 g2 hr => ?_)
  obtain ⟨rfl, yp⟩ := hr
  have hs := p1_scr2 hs yp
  show ab_go 1000 ab_M_L_law 525 [(3, .int 0), (2, .ref 82), (1, .ref 1), (0, .ref 0)] [.int (-1), .int (-1)] g2 _
  refine go_ict (tgt := 1038) rfl (by decide) (ab_cd_rf _) ?_
  exact p1_tail hs yp.1 yp.2.1
set_option maxHeartbeats 16000000 in
set_option maxRecDepth 20000 in
theorem p1_case_14 {g : ab_H} {xs : Nat → Int32} (q : ab_sim p1_Sx p1_Hx g) (hm : ∀ a, 81 < a → a < 120 → g.2.2 a = p1_H.2.2 a) (hs : ab_rd g 0 = some (.inl (0, 6, .inl xs))) : ab_go 1000 ab_M_L_law 530 [(3, .int 0), (2, .ref 82), (1, .ref 1), (0, .ref 0)] [] g p1_Q := by
  obtain ⟨a1, e1⟩ : ∃ a, xs 1 = a := ⟨_, rfl⟩
  obtain ⟨a2, e2⟩ : ∃ a, xs 2 = a := ⟨_, rfl⟩
  obtain ⟨a3, e3⟩ : ∃ a, xs 3 = a := ⟨_, rfl⟩
  obtain ⟨a4, e4⟩ : ∃ a, xs 4 = a := ⟨_, rfl⟩
  obtain ⟨a5, e5⟩ : ∃ a, xs 5 = a := ⟨_, rfl⟩
  refine go_s (pc' := 531) (lv' := [(3, .int 0), (2, .ref 82), (1, .ref 1), (0, .ref 0)]) (st' := [.ref 1]) rfl rfl rfl ?_
  refine go_s (pc' := 532) (lv' := [(3, .int 0), (2, .ref 82), (1, .ref 1), (0, .ref 0)]) (st' := [.ref 0, .ref 1]) rfl rfl rfl ?_
  refine go_s (pc' := 533) (lv' := [(3, .int 0), (2, .ref 82), (1, .ref 1), (0, .ref 0)]) (st' := [.int 0, .ref 0, .ref 1]) rfl rfl rfl ?_
  refine go_iconst (v := 1) rfl (by decide) ?_
  refine go_b2 (v := 1) rfl rfl (fun _ => rfl) (by decide) ?_
  refine go_ial (v := a1) rfl hs (by decide) e1 ?_
  refine go_s (pc' := 537) (lv' := [(3, .int 0), (2, .ref 82), (1, .ref 1), (0, .ref 0)]) (st' := [.ref 0, .int a1, .ref 1]) rfl rfl rfl ?_
  refine go_s (pc' := 538) (lv' := [(3, .int 0), (2, .ref 82), (1, .ref 1), (0, .ref 0)]) (st' := [.int 0, .ref 0, .int a1, .ref 1]) rfl rfl rfl ?_
  refine go_iconst (v := 2) rfl (by decide) ?_
  refine go_b2 (v := 2) rfl rfl (fun _ => rfl) (by decide) ?_
  refine go_ial (v := a2) rfl hs (by decide) e2 ?_
  refine go_c rfl rfl (ab_cal_v (As := [.int a1, .int a2]) (rest := []) rfl rfl rfl (ab_fo q p1_o_p1_Hx_1 (by decide)) rfl rfl rfl rfl) (lv0 := [(0, .ref 1), (1, .int a1), (2, .int a2)]) rfl (x_makes q a1 a2) (fun r0 g1 hr => ?_)
  obtain ⟨rfl, xp⟩ := hr
  have qm := p1_toM q hm xp
  have hs := p1_scr hs xp
  show ab_go 1000 ab_M_L_law 544 [(3, .int 0), (2, .ref 82), (1, .ref 1), (0, .ref 0)] [.int (-1)] g1 _
  refine go_s (pc' := 545) (lv' := [(3, .int 0), (2, .ref 82), (1, .ref 1), (0, .ref 0)]) (st' := [.ref 82, .int (-1)]) rfl rfl rfl ?_
  refine go_s (pc' := 546) (lv' := [(3, .int 0), (2, .ref 82), (1, .ref 1), (0, .ref 0)]) (st' := [.ref 0, .ref 82, .int (-1)]) rfl rfl rfl ?_
  refine go_s (pc' := 547) (lv' := [(3, .int 0), (2, .ref 82), (1, .ref 1), (0, .ref 0)]) (st' := [.int 0, .ref 0, .ref 82, .int (-1)]) rfl rfl rfl ?_
  refine go_iconst (v := 1) rfl (by decide) ?_
  refine go_b2 (v := 1) rfl rfl (fun _ => rfl) (by decide) ?_
  refine go_ial (v := a1) rfl hs (by decide) e1 ?_
  refine go_s (pc' := 551) (lv' := [(3, .int 0), (2, .ref 82), (1, .ref 1), (0, .ref 0)]) (st' := [.ref 0, .int a1, .ref 82, .int (-1)]) rfl rfl rfl ?_
  refine go_s (pc' := 552) (lv' := [(3, .int 0), (2, .ref 82), (1, .ref 1), (0, .ref 0)]) (st' := [.int 0, .ref 0, .int a1, .ref 82, .int (-1)]) rfl rfl rfl ?_
  refine go_iconst (v := 2) rfl (by decide) ?_
  refine go_b2 (v := 2) rfl rfl (fun _ => rfl) (by decide) ?_
  refine go_ial (v := a2) rfl hs (by decide) e2 ?_
  refine go_c rfl rfl (ab_cal_v (As := [.int a1, .int a2]) (rest := [.int (-1)]) rfl rfl rfl (ab_fo qm p1_o_p1_Hm_82 (by decide)) rfl rfl rfl rfl) (lv0 := [(0, .ref 82), (1, .int a1), (2, .int a2)]) rfl (m_makes qm a1 a2) (fun r0 g2 hr => ?_)
  obtain ⟨rfl, yp⟩ := hr
  have hs := p1_scr2 hs yp
  show ab_go 1000 ab_M_L_law 558 [(3, .int 0), (2, .ref 82), (1, .ref 1), (0, .ref 0)] [.int (-1), .int (-1)] g2 _
  refine go_ict (tgt := 1038) rfl (by decide) (ab_cd_rf _) ?_
  exact p1_tail hs yp.1 yp.2.1
set_option maxHeartbeats 16000000 in
set_option maxRecDepth 20000 in
theorem p1_case_15 {g : ab_H} {xs : Nat → Int32} (q : ab_sim p1_Sx p1_Hx g) (hm : ∀ a, 81 < a → a < 120 → g.2.2 a = p1_H.2.2 a) (hs : ab_rd g 0 = some (.inl (0, 6, .inl xs))) : ab_go 1000 ab_M_L_law 563 [(3, .int 0), (2, .ref 82), (1, .ref 1), (0, .ref 0)] [] g p1_Q := by
  obtain ⟨a1, e1⟩ : ∃ a, xs 1 = a := ⟨_, rfl⟩
  obtain ⟨a2, e2⟩ : ∃ a, xs 2 = a := ⟨_, rfl⟩
  obtain ⟨a3, e3⟩ : ∃ a, xs 3 = a := ⟨_, rfl⟩
  obtain ⟨a4, e4⟩ : ∃ a, xs 4 = a := ⟨_, rfl⟩
  obtain ⟨a5, e5⟩ : ∃ a, xs 5 = a := ⟨_, rfl⟩
  refine go_s (pc' := 564) (lv' := [(3, .int 0), (2, .ref 82), (1, .ref 1), (0, .ref 0)]) (st' := [.ref 1]) rfl rfl rfl ?_
  refine go_s (pc' := 565) (lv' := [(3, .int 0), (2, .ref 82), (1, .ref 1), (0, .ref 0)]) (st' := [.ref 0, .ref 1]) rfl rfl rfl ?_
  refine go_s (pc' := 566) (lv' := [(3, .int 0), (2, .ref 82), (1, .ref 1), (0, .ref 0)]) (st' := [.int 0, .ref 0, .ref 1]) rfl rfl rfl ?_
  refine go_iconst (v := 1) rfl (by decide) ?_
  refine go_b2 (v := 1) rfl rfl (fun _ => rfl) (by decide) ?_
  refine go_ial (v := a1) rfl hs (by decide) e1 ?_
  refine go_s (pc' := 570) (lv' := [(3, .int 0), (2, .ref 82), (1, .ref 1), (0, .ref 0)]) (st' := [.ref 0, .int a1, .ref 1]) rfl rfl rfl ?_
  refine go_s (pc' := 571) (lv' := [(3, .int 0), (2, .ref 82), (1, .ref 1), (0, .ref 0)]) (st' := [.int 0, .ref 0, .int a1, .ref 1]) rfl rfl rfl ?_
  refine go_iconst (v := 2) rfl (by decide) ?_
  refine go_b2 (v := 2) rfl rfl (fun _ => rfl) (by decide) ?_
  refine go_ial (v := a2) rfl hs (by decide) e2 ?_
  refine go_s (pc' := 575) (lv' := [(3, .int 0), (2, .ref 82), (1, .ref 1), (0, .ref 0)]) (st' := [.ref 0, .int a2, .int a1, .ref 1]) rfl rfl rfl ?_
  refine go_s (pc' := 576) (lv' := [(3, .int 0), (2, .ref 82), (1, .ref 1), (0, .ref 0)]) (st' := [.int 0, .ref 0, .int a2, .int a1, .ref 1]) rfl rfl rfl ?_
  refine go_iconst (v := 3) rfl (by decide) ?_
  refine go_b2 (v := 3) rfl rfl (fun _ => rfl) (by decide) ?_
  refine go_ial (v := a3) rfl hs (by decide) e3 ?_
  refine go_s (pc' := 580) (lv' := [(3, .int 0), (2, .ref 82), (1, .ref 1), (0, .ref 0)]) (st' := [.ref 0, .int a3, .int a2, .int a1, .ref 1]) rfl rfl rfl ?_
  refine go_s (pc' := 581) (lv' := [(3, .int 0), (2, .ref 82), (1, .ref 1), (0, .ref 0)]) (st' := [.int 0, .ref 0, .int a3, .int a2, .int a1, .ref 1]) rfl rfl rfl ?_
  refine go_iconst (v := 4) rfl (by decide) ?_
  refine go_b2 (v := 4) rfl rfl (fun _ => rfl) (by decide) ?_
  refine go_ial (v := a4) rfl hs (by decide) e4 ?_
  refine go_s (pc' := 585) (lv' := [(3, .int 0), (2, .ref 82), (1, .ref 1), (0, .ref 0)]) (st' := [.ref 0, .int a4, .int a3, .int a2, .int a1, .ref 1]) rfl rfl rfl ?_
  refine go_s (pc' := 586) (lv' := [(3, .int 0), (2, .ref 82), (1, .ref 1), (0, .ref 0)]) (st' := [.int 0, .ref 0, .int a4, .int a3, .int a2, .int a1, .ref 1]) rfl rfl rfl ?_
  refine go_iconst (v := 5) rfl (by decide) ?_
  refine go_b2 (v := 5) rfl rfl (fun _ => rfl) (by decide) ?_
  refine go_ial (v := a5) rfl hs (by decide) e5 ?_
  refine go_c rfl rfl (ab_cal_v (As := [.int a1, .int a2, .int a3, .int a4, .int a5]) (rest := []) rfl rfl rfl (ab_fo q p1_o_p1_Hx_1 (by decide)) rfl rfl rfl rfl) (lv0 := [(0, .ref 1), (1, .int a1), (2, .int a2), (3, .int a3), (4, .int a4), (5, .int a5)]) rfl (x_judge q a1 a2 a3 a4 a5) (fun r0 g1 hr => ?_)
  obtain ⟨rfl, xp⟩ := hr
  have qm := p1_toM q hm xp
  have hs := p1_scr hs xp
  show ab_go 1000 ab_M_L_law 592 [(3, .int 0), (2, .ref 82), (1, .ref 1), (0, .ref 0)] [.int (-1)] g1 _
  refine go_s (pc' := 593) (lv' := [(3, .int 0), (2, .ref 82), (1, .ref 1), (0, .ref 0)]) (st' := [.ref 82, .int (-1)]) rfl rfl rfl ?_
  refine go_s (pc' := 594) (lv' := [(3, .int 0), (2, .ref 82), (1, .ref 1), (0, .ref 0)]) (st' := [.ref 0, .ref 82, .int (-1)]) rfl rfl rfl ?_
  refine go_s (pc' := 595) (lv' := [(3, .int 0), (2, .ref 82), (1, .ref 1), (0, .ref 0)]) (st' := [.int 0, .ref 0, .ref 82, .int (-1)]) rfl rfl rfl ?_
  refine go_iconst (v := 1) rfl (by decide) ?_
  refine go_b2 (v := 1) rfl rfl (fun _ => rfl) (by decide) ?_
  refine go_ial (v := a1) rfl hs (by decide) e1 ?_
  refine go_s (pc' := 599) (lv' := [(3, .int 0), (2, .ref 82), (1, .ref 1), (0, .ref 0)]) (st' := [.ref 0, .int a1, .ref 82, .int (-1)]) rfl rfl rfl ?_
  refine go_s (pc' := 600) (lv' := [(3, .int 0), (2, .ref 82), (1, .ref 1), (0, .ref 0)]) (st' := [.int 0, .ref 0, .int a1, .ref 82, .int (-1)]) rfl rfl rfl ?_
  refine go_iconst (v := 2) rfl (by decide) ?_
  refine go_b2 (v := 2) rfl rfl (fun _ => rfl) (by decide) ?_
  refine go_ial (v := a2) rfl hs (by decide) e2 ?_
  refine go_s (pc' := 604) (lv' := [(3, .int 0), (2, .ref 82), (1, .ref 1), (0, .ref 0)]) (st' := [.ref 0, .int a2, .int a1, .ref 82, .int (-1)]) rfl rfl rfl ?_
  refine go_s (pc' := 605) (lv' := [(3, .int 0), (2, .ref 82), (1, .ref 1), (0, .ref 0)]) (st' := [.int 0, .ref 0, .int a2, .int a1, .ref 82, .int (-1)]) rfl rfl rfl ?_
  refine go_iconst (v := 3) rfl (by decide) ?_
  refine go_b2 (v := 3) rfl rfl (fun _ => rfl) (by decide) ?_
  refine go_ial (v := a3) rfl hs (by decide) e3 ?_
  refine go_s (pc' := 609) (lv' := [(3, .int 0), (2, .ref 82), (1, .ref 1), (0, .ref 0)]) (st' := [.ref 0, .int a3, .int a2, .int a1, .ref 82, .int (-1)]) rfl rfl rfl ?_
  refine go_s (pc' := 610) (lv' := [(3, .int 0), (2, .ref 82), (1, .ref 1), (0, .ref 0)]) (st' := [.int 0, .ref 0, .int a3, .int a2, .int a1, .ref 82, .int (-1)]) rfl rfl rfl ?_
  refine go_iconst (v := 4) rfl (by decide) ?_
  refine go_b2 (v := 4) rfl rfl (fun _ => rfl) (by decide) ?_
  refine go_ial (v := a4) rfl hs (by decide) e4 ?_
  refine go_s (pc' := 614) (lv' := [(3, .int 0), (2, .ref 82), (1, .ref 1), (0, .ref 0)]) (st' := [.ref 0, .int a4, .int a3, .int a2, .int a1, .ref 82, .int (-1)]) rfl rfl rfl ?_
  refine go_s (pc' := 615) (lv' := [(3, .int 0), (2, .ref 82), (1, .ref 1), (0, .ref 0)]) (st' := [.int 0, .ref 0, .int a4, .int a3, .int a2, .int a1, .ref 82, .int (-1)]) rfl rfl rfl ?_
  refine go_iconst (v := 5) rfl (by decide) ?_
  refine go_b2 (v := 5) rfl rfl (fun _ => rfl) (by decide) ?_
  refine go_ial (v := a5) rfl hs (by decide) e5 ?_
  refine go_c rfl rfl (ab_cal_v (As := [.int a1, .int a2, .int a3, .int a4, .int a5]) (rest := [.int (-1)]) rfl rfl rfl (ab_fo qm p1_o_p1_Hm_82 (by decide)) rfl rfl rfl rfl) (lv0 := [(0, .ref 82), (1, .int a1), (2, .int a2), (3, .int a3), (4, .int a4), (5, .int a5)]) rfl (m_judge qm a1 a2 a3 a4 a5) (fun r0 g2 hr => ?_)
  obtain ⟨rfl, yp⟩ := hr
  have hs := p1_scr2 hs yp
  show ab_go 1000 ab_M_L_law 621 [(3, .int 0), (2, .ref 82), (1, .ref 1), (0, .ref 0)] [.int (-1), .int (-1)] g2 _
  refine go_ict (tgt := 1038) rfl (by decide) (ab_cd_rf _) ?_
  exact p1_tail hs yp.1 yp.2.1
set_option maxHeartbeats 16000000 in
set_option maxRecDepth 20000 in
theorem p1_case_16 {g : ab_H} {xs : Nat → Int32} (q : ab_sim p1_Sx p1_Hx g) (hm : ∀ a, 81 < a → a < 120 → g.2.2 a = p1_H.2.2 a) (hs : ab_rd g 0 = some (.inl (0, 6, .inl xs))) : ab_go 1000 ab_M_L_law 626 [(3, .int 0), (2, .ref 82), (1, .ref 1), (0, .ref 0)] [] g p1_Q := by
  obtain ⟨a1, e1⟩ : ∃ a, xs 1 = a := ⟨_, rfl⟩
  obtain ⟨a2, e2⟩ : ∃ a, xs 2 = a := ⟨_, rfl⟩
  obtain ⟨a3, e3⟩ : ∃ a, xs 3 = a := ⟨_, rfl⟩
  obtain ⟨a4, e4⟩ : ∃ a, xs 4 = a := ⟨_, rfl⟩
  obtain ⟨a5, e5⟩ : ∃ a, xs 5 = a := ⟨_, rfl⟩
  refine go_s (pc' := 627) (lv' := [(3, .int 0), (2, .ref 82), (1, .ref 1), (0, .ref 0)]) (st' := [.ref 1]) rfl rfl rfl ?_
  refine go_c rfl rfl (ab_cal_v (As := []) (rest := []) rfl rfl rfl (ab_fo q p1_o_p1_Hx_1 (by decide)) rfl rfl rfl rfl) (lv0 := [(0, .ref 1)]) rfl (x_cost q ) (fun r0 g1 hr => ?_)
  obtain ⟨rfl, xp⟩ := hr
  have qm := p1_toM q hm xp
  have hs := p1_scr hs xp
  show ab_go 1000 ab_M_L_law 630 [(3, .int 0), (2, .ref 82), (1, .ref 1), (0, .ref 0)] [.int 0] g1 _
  refine go_s (pc' := 631) (lv' := [(3, .int 0), (2, .ref 82), (1, .ref 1), (0, .ref 0)]) (st' := [.ref 82, .int 0]) rfl rfl rfl ?_
  refine go_c rfl rfl (ab_cal_v (As := []) (rest := [.int 0]) rfl rfl rfl (ab_fo qm p1_o_p1_Hm_82 (by decide)) rfl rfl rfl rfl) (lv0 := [(0, .ref 82)]) rfl (m_cost qm ) (fun r0 g2 hr => ?_)
  obtain ⟨rfl, yp⟩ := hr
  have hs := p1_scr2 hs yp
  show ab_go 1000 ab_M_L_law 634 [(3, .int 0), (2, .ref 82), (1, .ref 1), (0, .ref 0)] [.int 0, .int 0] g2 _
  refine go_ict (tgt := 1038) rfl (by decide) (ab_cd_rf _) ?_
  exact p1_tail hs yp.1 yp.2.1
set_option maxHeartbeats 16000000 in
set_option maxRecDepth 20000 in
theorem p1_case_17 {g : ab_H} {xs : Nat → Int32} (q : ab_sim p1_Sx p1_Hx g) (hm : ∀ a, 81 < a → a < 120 → g.2.2 a = p1_H.2.2 a) (hs : ab_rd g 0 = some (.inl (0, 6, .inl xs))) : ab_go 1000 ab_M_L_law 639 [(3, .int 0), (2, .ref 82), (1, .ref 1), (0, .ref 0)] [] g p1_Q := by
  obtain ⟨a1, e1⟩ : ∃ a, xs 1 = a := ⟨_, rfl⟩
  obtain ⟨a2, e2⟩ : ∃ a, xs 2 = a := ⟨_, rfl⟩
  obtain ⟨a3, e3⟩ : ∃ a, xs 3 = a := ⟨_, rfl⟩
  obtain ⟨a4, e4⟩ : ∃ a, xs 4 = a := ⟨_, rfl⟩
  obtain ⟨a5, e5⟩ : ∃ a, xs 5 = a := ⟨_, rfl⟩
  refine go_s (pc' := 640) (lv' := [(3, .int 0), (2, .ref 82), (1, .ref 1), (0, .ref 0)]) (st' := [.ref 1]) rfl rfl rfl ?_
  refine go_s (pc' := 641) (lv' := [(3, .int 0), (2, .ref 82), (1, .ref 1), (0, .ref 0)]) (st' := [.ref 0, .ref 1]) rfl rfl rfl ?_
  refine go_s (pc' := 642) (lv' := [(3, .int 0), (2, .ref 82), (1, .ref 1), (0, .ref 0)]) (st' := [.int 0, .ref 0, .ref 1]) rfl rfl rfl ?_
  refine go_iconst (v := 1) rfl (by decide) ?_
  refine go_b2 (v := 1) rfl rfl (fun _ => rfl) (by decide) ?_
  refine go_ial (v := a1) rfl hs (by decide) e1 ?_
  refine go_s (pc' := 646) (lv' := [(3, .int 0), (2, .ref 82), (1, .ref 1), (0, .ref 0)]) (st' := [.ref 0, .int a1, .ref 1]) rfl rfl rfl ?_
  refine go_s (pc' := 647) (lv' := [(3, .int 0), (2, .ref 82), (1, .ref 1), (0, .ref 0)]) (st' := [.int 0, .ref 0, .int a1, .ref 1]) rfl rfl rfl ?_
  refine go_iconst (v := 2) rfl (by decide) ?_
  refine go_b2 (v := 2) rfl rfl (fun _ => rfl) (by decide) ?_
  refine go_ial (v := a2) rfl hs (by decide) e2 ?_
  refine go_c rfl rfl (ab_cal_v (As := [.int a1, .int a2]) (rest := []) rfl rfl rfl (ab_fo q p1_o_p1_Hx_1 (by decide)) rfl rfl rfl rfl) (lv0 := [(0, .ref 1), (1, .int a1), (2, .int a2)]) rfl (x_would q a1 a2) (fun r0 g1 hr => ?_)
  obtain ⟨rfl, xp⟩ := hr
  have qm := p1_toM q hm xp
  have hs := p1_scr hs xp
  show ab_go 1000 ab_M_L_law 653 [(3, .int 0), (2, .ref 82), (1, .ref 1), (0, .ref 0)] [.int (-1)] g1 _
  refine go_s (pc' := 654) (lv' := [(3, .int 0), (2, .ref 82), (1, .ref 1), (0, .ref 0)]) (st' := [.ref 82, .int (-1)]) rfl rfl rfl ?_
  refine go_s (pc' := 655) (lv' := [(3, .int 0), (2, .ref 82), (1, .ref 1), (0, .ref 0)]) (st' := [.ref 0, .ref 82, .int (-1)]) rfl rfl rfl ?_
  refine go_s (pc' := 656) (lv' := [(3, .int 0), (2, .ref 82), (1, .ref 1), (0, .ref 0)]) (st' := [.int 0, .ref 0, .ref 82, .int (-1)]) rfl rfl rfl ?_
  refine go_iconst (v := 1) rfl (by decide) ?_
  refine go_b2 (v := 1) rfl rfl (fun _ => rfl) (by decide) ?_
  refine go_ial (v := a1) rfl hs (by decide) e1 ?_
  refine go_s (pc' := 660) (lv' := [(3, .int 0), (2, .ref 82), (1, .ref 1), (0, .ref 0)]) (st' := [.ref 0, .int a1, .ref 82, .int (-1)]) rfl rfl rfl ?_
  refine go_s (pc' := 661) (lv' := [(3, .int 0), (2, .ref 82), (1, .ref 1), (0, .ref 0)]) (st' := [.int 0, .ref 0, .int a1, .ref 82, .int (-1)]) rfl rfl rfl ?_
  refine go_iconst (v := 2) rfl (by decide) ?_
  refine go_b2 (v := 2) rfl rfl (fun _ => rfl) (by decide) ?_
  refine go_ial (v := a2) rfl hs (by decide) e2 ?_
  refine go_c rfl rfl (ab_cal_v (As := [.int a1, .int a2]) (rest := [.int (-1)]) rfl rfl rfl (ab_fo qm p1_o_p1_Hm_82 (by decide)) rfl rfl rfl rfl) (lv0 := [(0, .ref 82), (1, .int a1), (2, .int a2)]) rfl (m_would qm a1 a2) (fun r0 g2 hr => ?_)
  obtain ⟨rfl, yp⟩ := hr
  have hs := p1_scr2 hs yp
  show ab_go 1000 ab_M_L_law 667 [(3, .int 0), (2, .ref 82), (1, .ref 1), (0, .ref 0)] [.int (-1), .int (-1)] g2 _
  refine go_ict (tgt := 1038) rfl (by decide) (ab_cd_rf _) ?_
  exact p1_tail hs yp.1 yp.2.1
set_option maxHeartbeats 16000000 in
set_option maxRecDepth 20000 in
theorem p1_case_18 {g : ab_H} {xs : Nat → Int32} (q : ab_sim p1_Sx p1_Hx g) (hm : ∀ a, 81 < a → a < 120 → g.2.2 a = p1_H.2.2 a) (hs : ab_rd g 0 = some (.inl (0, 6, .inl xs))) : ab_go 1000 ab_M_L_law 672 [(3, .int 0), (2, .ref 82), (1, .ref 1), (0, .ref 0)] [] g p1_Q := by
  obtain ⟨a1, e1⟩ : ∃ a, xs 1 = a := ⟨_, rfl⟩
  obtain ⟨a2, e2⟩ : ∃ a, xs 2 = a := ⟨_, rfl⟩
  obtain ⟨a3, e3⟩ : ∃ a, xs 3 = a := ⟨_, rfl⟩
  obtain ⟨a4, e4⟩ : ∃ a, xs 4 = a := ⟨_, rfl⟩
  obtain ⟨a5, e5⟩ : ∃ a, xs 5 = a := ⟨_, rfl⟩
  refine go_s (pc' := 673) (lv' := [(3, .int 0), (2, .ref 82), (1, .ref 1), (0, .ref 0)]) (st' := [.ref 1]) rfl rfl rfl ?_
  refine go_s (pc' := 674) (lv' := [(3, .int 0), (2, .ref 82), (1, .ref 1), (0, .ref 0)]) (st' := [.ref 0, .ref 1]) rfl rfl rfl ?_
  refine go_s (pc' := 675) (lv' := [(3, .int 0), (2, .ref 82), (1, .ref 1), (0, .ref 0)]) (st' := [.int 0, .ref 0, .ref 1]) rfl rfl rfl ?_
  refine go_iconst (v := 1) rfl (by decide) ?_
  refine go_b2 (v := 1) rfl rfl (fun _ => rfl) (by decide) ?_
  refine go_ial (v := a1) rfl hs (by decide) e1 ?_
  refine go_s (pc' := 679) (lv' := [(3, .int 0), (2, .ref 82), (1, .ref 1), (0, .ref 0)]) (st' := [.ref 0, .int a1, .ref 1]) rfl rfl rfl ?_
  refine go_s (pc' := 680) (lv' := [(3, .int 0), (2, .ref 82), (1, .ref 1), (0, .ref 0)]) (st' := [.int 0, .ref 0, .int a1, .ref 1]) rfl rfl rfl ?_
  refine go_iconst (v := 2) rfl (by decide) ?_
  refine go_b2 (v := 2) rfl rfl (fun _ => rfl) (by decide) ?_
  refine go_ial (v := a2) rfl hs (by decide) e2 ?_
  refine go_c rfl rfl (ab_cal_v (As := [.int a1, .int a2]) (rest := []) rfl rfl rfl (ab_fo q p1_o_p1_Hx_1 (by decide)) rfl rfl rfl rfl) (lv0 := [(0, .ref 1), (1, .int a1), (2, .int a2)]) rfl (x_cure q a1 a2) (fun r0 g1 hr => ?_)
  obtain ⟨rfl, xp⟩ := hr
  have qm := p1_toM q hm xp
  have hs := p1_scr hs xp
  show ab_go 1000 ab_M_L_law 686 [(3, .int 0), (2, .ref 82), (1, .ref 1), (0, .ref 0)] [.int (-1)] g1 _
  refine go_s (pc' := 687) (lv' := [(3, .int 0), (2, .ref 82), (1, .ref 1), (0, .ref 0)]) (st' := [.ref 82, .int (-1)]) rfl rfl rfl ?_
  refine go_s (pc' := 688) (lv' := [(3, .int 0), (2, .ref 82), (1, .ref 1), (0, .ref 0)]) (st' := [.ref 0, .ref 82, .int (-1)]) rfl rfl rfl ?_
  refine go_s (pc' := 689) (lv' := [(3, .int 0), (2, .ref 82), (1, .ref 1), (0, .ref 0)]) (st' := [.int 0, .ref 0, .ref 82, .int (-1)]) rfl rfl rfl ?_
  refine go_iconst (v := 1) rfl (by decide) ?_
  refine go_b2 (v := 1) rfl rfl (fun _ => rfl) (by decide) ?_
  refine go_ial (v := a1) rfl hs (by decide) e1 ?_
  refine go_s (pc' := 693) (lv' := [(3, .int 0), (2, .ref 82), (1, .ref 1), (0, .ref 0)]) (st' := [.ref 0, .int a1, .ref 82, .int (-1)]) rfl rfl rfl ?_
  refine go_s (pc' := 694) (lv' := [(3, .int 0), (2, .ref 82), (1, .ref 1), (0, .ref 0)]) (st' := [.int 0, .ref 0, .int a1, .ref 82, .int (-1)]) rfl rfl rfl ?_
  refine go_iconst (v := 2) rfl (by decide) ?_
  refine go_b2 (v := 2) rfl rfl (fun _ => rfl) (by decide) ?_
  refine go_ial (v := a2) rfl hs (by decide) e2 ?_
  refine go_c rfl rfl (ab_cal_v (As := [.int a1, .int a2]) (rest := [.int (-1)]) rfl rfl rfl (ab_fo qm p1_o_p1_Hm_82 (by decide)) rfl rfl rfl rfl) (lv0 := [(0, .ref 82), (1, .int a1), (2, .int a2)]) rfl (m_cure qm a1 a2) (fun r0 g2 hr => ?_)
  obtain ⟨rfl, yp⟩ := hr
  have hs := p1_scr2 hs yp
  show ab_go 1000 ab_M_L_law 700 [(3, .int 0), (2, .ref 82), (1, .ref 1), (0, .ref 0)] [.int (-1), .int (-1)] g2 _
  refine go_ict (tgt := 1038) rfl (by decide) (ab_cd_rf _) ?_
  exact p1_tail hs yp.1 yp.2.1
set_option maxHeartbeats 16000000 in
set_option maxRecDepth 20000 in
theorem p1_case_19 {g : ab_H} {xs : Nat → Int32} (q : ab_sim p1_Sx p1_Hx g) (hm : ∀ a, 81 < a → a < 120 → g.2.2 a = p1_H.2.2 a) (hs : ab_rd g 0 = some (.inl (0, 6, .inl xs))) : ab_go 1000 ab_M_L_law 705 [(3, .int 0), (2, .ref 82), (1, .ref 1), (0, .ref 0)] [] g p1_Q := by
  obtain ⟨a1, e1⟩ : ∃ a, xs 1 = a := ⟨_, rfl⟩
  obtain ⟨a2, e2⟩ : ∃ a, xs 2 = a := ⟨_, rfl⟩
  obtain ⟨a3, e3⟩ : ∃ a, xs 3 = a := ⟨_, rfl⟩
  obtain ⟨a4, e4⟩ : ∃ a, xs 4 = a := ⟨_, rfl⟩
  obtain ⟨a5, e5⟩ : ∃ a, xs 5 = a := ⟨_, rfl⟩
  refine go_s (pc' := 706) (lv' := [(3, .int 0), (2, .ref 82), (1, .ref 1), (0, .ref 0)]) (st' := [.ref 1]) rfl rfl rfl ?_
  refine go_s (pc' := 707) (lv' := [(3, .int 0), (2, .ref 82), (1, .ref 1), (0, .ref 0)]) (st' := [.ref 0, .ref 1]) rfl rfl rfl ?_
  refine go_s (pc' := 708) (lv' := [(3, .int 0), (2, .ref 82), (1, .ref 1), (0, .ref 0)]) (st' := [.int 0, .ref 0, .ref 1]) rfl rfl rfl ?_
  refine go_iconst (v := 1) rfl (by decide) ?_
  refine go_b2 (v := 1) rfl rfl (fun _ => rfl) (by decide) ?_
  refine go_ial (v := a1) rfl hs (by decide) e1 ?_
  refine go_c rfl rfl (ab_cal_v (As := [.int a1]) (rest := []) rfl rfl rfl (ab_fo q p1_o_p1_Hx_1 (by decide)) rfl rfl rfl rfl) (lv0 := [(0, .ref 1), (1, .int a1)]) rfl (x_cures q a1) (fun r0 g1 hr => ?_)
  obtain ⟨rfl, xp⟩ := hr
  have qm := p1_toM q hm xp
  have hs := p1_scr hs xp
  show ab_go 1000 ab_M_L_law 714 [(3, .int 0), (2, .ref 82), (1, .ref 1), (0, .ref 0)] [.int (an_cures a1)] g1 _
  refine go_s (pc' := 715) (lv' := [(3, .int 0), (2, .ref 82), (1, .ref 1), (0, .ref 0)]) (st' := [.ref 82, .int (an_cures a1)]) rfl rfl rfl ?_
  refine go_s (pc' := 716) (lv' := [(3, .int 0), (2, .ref 82), (1, .ref 1), (0, .ref 0)]) (st' := [.ref 0, .ref 82, .int (an_cures a1)]) rfl rfl rfl ?_
  refine go_s (pc' := 717) (lv' := [(3, .int 0), (2, .ref 82), (1, .ref 1), (0, .ref 0)]) (st' := [.int 0, .ref 0, .ref 82, .int (an_cures a1)]) rfl rfl rfl ?_
  refine go_iconst (v := 1) rfl (by decide) ?_
  refine go_b2 (v := 1) rfl rfl (fun _ => rfl) (by decide) ?_
  refine go_ial (v := a1) rfl hs (by decide) e1 ?_
  refine go_c rfl rfl (ab_cal_v (As := [.int a1]) (rest := [.int (an_cures a1)]) rfl rfl rfl (ab_fo qm p1_o_p1_Hm_82 (by decide)) rfl rfl rfl rfl) (lv0 := [(0, .ref 82), (1, .int a1)]) rfl (m_cures qm a1) (fun r0 g2 hr => ?_)
  obtain ⟨rfl, yp⟩ := hr
  have hs := p1_scr2 hs yp
  show ab_go 1000 ab_M_L_law 723 [(3, .int 0), (2, .ref 82), (1, .ref 1), (0, .ref 0)] [.int (an_cures a1), .int (an_cures a1)] g2 _
  refine go_ict (tgt := 1038) rfl (by decide) (ab_cd_rf _) ?_
  exact p1_tail hs yp.1 yp.2.1
set_option maxHeartbeats 16000000 in
set_option maxRecDepth 20000 in
theorem p1_case_20 {g : ab_H} {xs : Nat → Int32} (q : ab_sim p1_Sx p1_Hx g) (hm : ∀ a, 81 < a → a < 120 → g.2.2 a = p1_H.2.2 a) (hs : ab_rd g 0 = some (.inl (0, 6, .inl xs))) : ab_go 1000 ab_M_L_law 728 [(3, .int 0), (2, .ref 82), (1, .ref 1), (0, .ref 0)] [] g p1_Q := by
  obtain ⟨a1, e1⟩ : ∃ a, xs 1 = a := ⟨_, rfl⟩
  obtain ⟨a2, e2⟩ : ∃ a, xs 2 = a := ⟨_, rfl⟩
  obtain ⟨a3, e3⟩ : ∃ a, xs 3 = a := ⟨_, rfl⟩
  obtain ⟨a4, e4⟩ : ∃ a, xs 4 = a := ⟨_, rfl⟩
  obtain ⟨a5, e5⟩ : ∃ a, xs 5 = a := ⟨_, rfl⟩
  refine go_s (pc' := 729) (lv' := [(3, .int 0), (2, .ref 82), (1, .ref 1), (0, .ref 0)]) (st' := [.ref 1]) rfl rfl rfl ?_
  refine go_s (pc' := 730) (lv' := [(3, .int 0), (2, .ref 82), (1, .ref 1), (0, .ref 0)]) (st' := [.ref 0, .ref 1]) rfl rfl rfl ?_
  refine go_s (pc' := 731) (lv' := [(3, .int 0), (2, .ref 82), (1, .ref 1), (0, .ref 0)]) (st' := [.int 0, .ref 0, .ref 1]) rfl rfl rfl ?_
  refine go_iconst (v := 1) rfl (by decide) ?_
  refine go_b2 (v := 1) rfl rfl (fun _ => rfl) (by decide) ?_
  refine go_ial (v := a1) rfl hs (by decide) e1 ?_
  refine go_s (pc' := 735) (lv' := [(3, .int 0), (2, .ref 82), (1, .ref 1), (0, .ref 0)]) (st' := [.ref 0, .int a1, .ref 1]) rfl rfl rfl ?_
  refine go_s (pc' := 736) (lv' := [(3, .int 0), (2, .ref 82), (1, .ref 1), (0, .ref 0)]) (st' := [.int 0, .ref 0, .int a1, .ref 1]) rfl rfl rfl ?_
  refine go_iconst (v := 2) rfl (by decide) ?_
  refine go_b2 (v := 2) rfl rfl (fun _ => rfl) (by decide) ?_
  refine go_ial (v := a2) rfl hs (by decide) e2 ?_
  refine go_c rfl rfl (ab_cal_v (As := [.int a1, .int a2]) (rest := []) rfl rfl rfl (ab_fo q p1_o_p1_Hx_1 (by decide)) rfl rfl rfl rfl) (lv0 := [(0, .ref 1), (1, .int a1), (2, .int a2)]) rfl (x_delay q a1 a2) (fun r0 g1 hr => ?_)
  obtain ⟨rfl, xp⟩ := hr
  have qm := p1_toM q hm xp
  have hs := p1_scr hs xp
  show ab_go 1000 ab_M_L_law 742 [(3, .int 0), (2, .ref 82), (1, .ref 1), (0, .ref 0)] [.int (-1)] g1 _
  refine go_s (pc' := 743) (lv' := [(3, .int 0), (2, .ref 82), (1, .ref 1), (0, .ref 0)]) (st' := [.ref 82, .int (-1)]) rfl rfl rfl ?_
  refine go_s (pc' := 744) (lv' := [(3, .int 0), (2, .ref 82), (1, .ref 1), (0, .ref 0)]) (st' := [.ref 0, .ref 82, .int (-1)]) rfl rfl rfl ?_
  refine go_s (pc' := 745) (lv' := [(3, .int 0), (2, .ref 82), (1, .ref 1), (0, .ref 0)]) (st' := [.int 0, .ref 0, .ref 82, .int (-1)]) rfl rfl rfl ?_
  refine go_iconst (v := 1) rfl (by decide) ?_
  refine go_b2 (v := 1) rfl rfl (fun _ => rfl) (by decide) ?_
  refine go_ial (v := a1) rfl hs (by decide) e1 ?_
  refine go_s (pc' := 749) (lv' := [(3, .int 0), (2, .ref 82), (1, .ref 1), (0, .ref 0)]) (st' := [.ref 0, .int a1, .ref 82, .int (-1)]) rfl rfl rfl ?_
  refine go_s (pc' := 750) (lv' := [(3, .int 0), (2, .ref 82), (1, .ref 1), (0, .ref 0)]) (st' := [.int 0, .ref 0, .int a1, .ref 82, .int (-1)]) rfl rfl rfl ?_
  refine go_iconst (v := 2) rfl (by decide) ?_
  refine go_b2 (v := 2) rfl rfl (fun _ => rfl) (by decide) ?_
  refine go_ial (v := a2) rfl hs (by decide) e2 ?_
  refine go_c rfl rfl (ab_cal_v (As := [.int a1, .int a2]) (rest := [.int (-1)]) rfl rfl rfl (ab_fo qm p1_o_p1_Hm_82 (by decide)) rfl rfl rfl rfl) (lv0 := [(0, .ref 82), (1, .int a1), (2, .int a2)]) rfl (m_delay qm a1 a2) (fun r0 g2 hr => ?_)
  obtain ⟨rfl, yp⟩ := hr
  have hs := p1_scr2 hs yp
  show ab_go 1000 ab_M_L_law 756 [(3, .int 0), (2, .ref 82), (1, .ref 1), (0, .ref 0)] [.int (-1), .int (-1)] g2 _
  refine go_ict (tgt := 1038) rfl (by decide) (ab_cd_rf _) ?_
  exact p1_tail hs yp.1 yp.2.1
set_option maxHeartbeats 16000000 in
set_option maxRecDepth 20000 in
theorem p1_case_21 {g : ab_H} {xs : Nat → Int32} (q : ab_sim p1_Sx p1_Hx g) (hm : ∀ a, 81 < a → a < 120 → g.2.2 a = p1_H.2.2 a) (hs : ab_rd g 0 = some (.inl (0, 6, .inl xs))) : ab_go 1000 ab_M_L_law 761 [(3, .int 0), (2, .ref 82), (1, .ref 1), (0, .ref 0)] [] g p1_Q := by
  obtain ⟨a1, e1⟩ : ∃ a, xs 1 = a := ⟨_, rfl⟩
  obtain ⟨a2, e2⟩ : ∃ a, xs 2 = a := ⟨_, rfl⟩
  obtain ⟨a3, e3⟩ : ∃ a, xs 3 = a := ⟨_, rfl⟩
  obtain ⟨a4, e4⟩ : ∃ a, xs 4 = a := ⟨_, rfl⟩
  obtain ⟨a5, e5⟩ : ∃ a, xs 5 = a := ⟨_, rfl⟩
  refine go_s (pc' := 762) (lv' := [(3, .int 0), (2, .ref 82), (1, .ref 1), (0, .ref 0)]) (st' := [.ref 1]) rfl rfl rfl ?_
  refine go_s (pc' := 763) (lv' := [(3, .int 0), (2, .ref 82), (1, .ref 1), (0, .ref 0)]) (st' := [.ref 0, .ref 1]) rfl rfl rfl ?_
  refine go_s (pc' := 764) (lv' := [(3, .int 0), (2, .ref 82), (1, .ref 1), (0, .ref 0)]) (st' := [.int 0, .ref 0, .ref 1]) rfl rfl rfl ?_
  refine go_iconst (v := 1) rfl (by decide) ?_
  refine go_b2 (v := 1) rfl rfl (fun _ => rfl) (by decide) ?_
  refine go_ial (v := a1) rfl hs (by decide) e1 ?_
  refine go_c rfl rfl (ab_cal_v (As := [.int a1]) (rest := []) rfl rfl rfl (ab_fo q p1_o_p1_Hx_1 (by decide)) rfl rfl rfl rfl) (lv0 := [(0, .ref 1), (1, .int a1)]) rfl (x_beat q a1) (fun r0 g1 hr => ?_)
  obtain ⟨rfl, xp⟩ := hr
  have qm := p1_toM q hm xp
  have hs := p1_scr hs xp
  show ab_go 1000 ab_M_L_law 770 [(3, .int 0), (2, .ref 82), (1, .ref 1), (0, .ref 0)] [.int (an_beat a1)] g1 _
  refine go_s (pc' := 771) (lv' := [(3, .int 0), (2, .ref 82), (1, .ref 1), (0, .ref 0)]) (st' := [.ref 82, .int (an_beat a1)]) rfl rfl rfl ?_
  refine go_s (pc' := 772) (lv' := [(3, .int 0), (2, .ref 82), (1, .ref 1), (0, .ref 0)]) (st' := [.ref 0, .ref 82, .int (an_beat a1)]) rfl rfl rfl ?_
  refine go_s (pc' := 773) (lv' := [(3, .int 0), (2, .ref 82), (1, .ref 1), (0, .ref 0)]) (st' := [.int 0, .ref 0, .ref 82, .int (an_beat a1)]) rfl rfl rfl ?_
  refine go_iconst (v := 1) rfl (by decide) ?_
  refine go_b2 (v := 1) rfl rfl (fun _ => rfl) (by decide) ?_
  refine go_ial (v := a1) rfl hs (by decide) e1 ?_
  refine go_c rfl rfl (ab_cal_v (As := [.int a1]) (rest := [.int (an_beat a1)]) rfl rfl rfl (ab_fo qm p1_o_p1_Hm_82 (by decide)) rfl rfl rfl rfl) (lv0 := [(0, .ref 82), (1, .int a1)]) rfl (m_beat qm a1) (fun r0 g2 hr => ?_)
  obtain ⟨rfl, yp⟩ := hr
  have hs := p1_scr2 hs yp
  show ab_go 1000 ab_M_L_law 779 [(3, .int 0), (2, .ref 82), (1, .ref 1), (0, .ref 0)] [.int (an_beat a1), .int (an_beat a1)] g2 _
  refine go_ict (tgt := 1038) rfl (by decide) (ab_cd_rf _) ?_
  exact p1_tail hs yp.1 yp.2.1
set_option maxHeartbeats 16000000 in
set_option maxRecDepth 20000 in
theorem p1_case_22 {g : ab_H} {xs : Nat → Int32} (q : ab_sim p1_Sx p1_Hx g) (hm : ∀ a, 81 < a → a < 120 → g.2.2 a = p1_H.2.2 a) (hs : ab_rd g 0 = some (.inl (0, 6, .inl xs))) : ab_go 1000 ab_M_L_law 784 [(3, .int 0), (2, .ref 82), (1, .ref 1), (0, .ref 0)] [] g p1_Q := by
  obtain ⟨a1, e1⟩ : ∃ a, xs 1 = a := ⟨_, rfl⟩
  obtain ⟨a2, e2⟩ : ∃ a, xs 2 = a := ⟨_, rfl⟩
  obtain ⟨a3, e3⟩ : ∃ a, xs 3 = a := ⟨_, rfl⟩
  obtain ⟨a4, e4⟩ : ∃ a, xs 4 = a := ⟨_, rfl⟩
  obtain ⟨a5, e5⟩ : ∃ a, xs 5 = a := ⟨_, rfl⟩
  refine go_s (pc' := 785) (lv' := [(3, .int 0), (2, .ref 82), (1, .ref 1), (0, .ref 0)]) (st' := [.ref 1]) rfl rfl rfl ?_
  refine go_s (pc' := 786) (lv' := [(3, .int 0), (2, .ref 82), (1, .ref 1), (0, .ref 0)]) (st' := [.ref 0, .ref 1]) rfl rfl rfl ?_
  refine go_s (pc' := 787) (lv' := [(3, .int 0), (2, .ref 82), (1, .ref 1), (0, .ref 0)]) (st' := [.int 0, .ref 0, .ref 1]) rfl rfl rfl ?_
  refine go_iconst (v := 1) rfl (by decide) ?_
  refine go_b2 (v := 1) rfl rfl (fun _ => rfl) (by decide) ?_
  refine go_ial (v := a1) rfl hs (by decide) e1 ?_
  refine go_s (pc' := 791) (lv' := [(3, .int 0), (2, .ref 82), (1, .ref 1), (0, .ref 0)]) (st' := [.ref 0, .int a1, .ref 1]) rfl rfl rfl ?_
  refine go_s (pc' := 792) (lv' := [(3, .int 0), (2, .ref 82), (1, .ref 1), (0, .ref 0)]) (st' := [.int 0, .ref 0, .int a1, .ref 1]) rfl rfl rfl ?_
  refine go_iconst (v := 2) rfl (by decide) ?_
  refine go_b2 (v := 2) rfl rfl (fun _ => rfl) (by decide) ?_
  refine go_ial (v := a2) rfl hs (by decide) e2 ?_
  refine go_c rfl rfl (ab_cal_v (As := [.int a1, .int a2]) (rest := []) rfl rfl rfl (ab_fo q p1_o_p1_Hx_1 (by decide)) rfl rfl rfl rfl) (lv0 := [(0, .ref 1), (1, .int a1), (2, .int a2)]) rfl (x_time q a1 a2) (fun r0 g1 hr => ?_)
  obtain ⟨rfl, xp⟩ := hr
  have qm := p1_toM q hm xp
  have hs := p1_scr hs xp
  show ab_go 1000 ab_M_L_law 798 [(3, .int 0), (2, .ref 82), (1, .ref 1), (0, .ref 0)] [.int (-1)] g1 _
  refine go_s (pc' := 799) (lv' := [(3, .int 0), (2, .ref 82), (1, .ref 1), (0, .ref 0)]) (st' := [.ref 82, .int (-1)]) rfl rfl rfl ?_
  refine go_s (pc' := 800) (lv' := [(3, .int 0), (2, .ref 82), (1, .ref 1), (0, .ref 0)]) (st' := [.ref 0, .ref 82, .int (-1)]) rfl rfl rfl ?_
  refine go_s (pc' := 801) (lv' := [(3, .int 0), (2, .ref 82), (1, .ref 1), (0, .ref 0)]) (st' := [.int 0, .ref 0, .ref 82, .int (-1)]) rfl rfl rfl ?_
  refine go_iconst (v := 1) rfl (by decide) ?_
  refine go_b2 (v := 1) rfl rfl (fun _ => rfl) (by decide) ?_
  refine go_ial (v := a1) rfl hs (by decide) e1 ?_
  refine go_s (pc' := 805) (lv' := [(3, .int 0), (2, .ref 82), (1, .ref 1), (0, .ref 0)]) (st' := [.ref 0, .int a1, .ref 82, .int (-1)]) rfl rfl rfl ?_
  refine go_s (pc' := 806) (lv' := [(3, .int 0), (2, .ref 82), (1, .ref 1), (0, .ref 0)]) (st' := [.int 0, .ref 0, .int a1, .ref 82, .int (-1)]) rfl rfl rfl ?_
  refine go_iconst (v := 2) rfl (by decide) ?_
  refine go_b2 (v := 2) rfl rfl (fun _ => rfl) (by decide) ?_
  refine go_ial (v := a2) rfl hs (by decide) e2 ?_
  refine go_c rfl rfl (ab_cal_v (As := [.int a1, .int a2]) (rest := [.int (-1)]) rfl rfl rfl (ab_fo qm p1_o_p1_Hm_82 (by decide)) rfl rfl rfl rfl) (lv0 := [(0, .ref 82), (1, .int a1), (2, .int a2)]) rfl (m_time qm a1 a2) (fun r0 g2 hr => ?_)
  obtain ⟨rfl, yp⟩ := hr
  have hs := p1_scr2 hs yp
  show ab_go 1000 ab_M_L_law 812 [(3, .int 0), (2, .ref 82), (1, .ref 1), (0, .ref 0)] [.int (-1), .int (-1)] g2 _
  refine go_ict (tgt := 1038) rfl (by decide) (ab_cd_rf _) ?_
  exact p1_tail hs yp.1 yp.2.1
set_option maxHeartbeats 16000000 in
set_option maxRecDepth 20000 in
theorem p1_case_23 {g : ab_H} {xs : Nat → Int32} (q : ab_sim p1_Sx p1_Hx g) (hm : ∀ a, 81 < a → a < 120 → g.2.2 a = p1_H.2.2 a) (hs : ab_rd g 0 = some (.inl (0, 6, .inl xs))) : ab_go 1000 ab_M_L_law 817 [(3, .int 0), (2, .ref 82), (1, .ref 1), (0, .ref 0)] [] g p1_Q := by
  obtain ⟨a1, e1⟩ : ∃ a, xs 1 = a := ⟨_, rfl⟩
  obtain ⟨a2, e2⟩ : ∃ a, xs 2 = a := ⟨_, rfl⟩
  obtain ⟨a3, e3⟩ : ∃ a, xs 3 = a := ⟨_, rfl⟩
  obtain ⟨a4, e4⟩ : ∃ a, xs 4 = a := ⟨_, rfl⟩
  obtain ⟨a5, e5⟩ : ∃ a, xs 5 = a := ⟨_, rfl⟩
  refine go_s (pc' := 818) (lv' := [(3, .int 0), (2, .ref 82), (1, .ref 1), (0, .ref 0)]) (st' := [.ref 1]) rfl rfl rfl ?_
  refine go_s (pc' := 819) (lv' := [(3, .int 0), (2, .ref 82), (1, .ref 1), (0, .ref 0)]) (st' := [.ref 0, .ref 1]) rfl rfl rfl ?_
  refine go_s (pc' := 820) (lv' := [(3, .int 0), (2, .ref 82), (1, .ref 1), (0, .ref 0)]) (st' := [.int 0, .ref 0, .ref 1]) rfl rfl rfl ?_
  refine go_iconst (v := 1) rfl (by decide) ?_
  refine go_b2 (v := 1) rfl rfl (fun _ => rfl) (by decide) ?_
  refine go_ial (v := a1) rfl hs (by decide) e1 ?_
  refine go_c rfl rfl (ab_cal_v (As := [.int a1]) (rest := []) rfl rfl rfl (ab_fo q p1_o_p1_Hx_1 (by decide)) rfl rfl rfl rfl) (lv0 := [(0, .ref 1), (1, .int a1)]) rfl (x_come q a1) (fun r0 g1 hr => ?_)
  obtain ⟨rfl, xp⟩ := hr
  have qm := p1_toM q hm xp
  have hs := p1_scr hs xp
  show ab_go 1000 ab_M_L_law 826 [(3, .int 0), (2, .ref 82), (1, .ref 1), (0, .ref 0)] [.int (-1)] g1 _
  refine go_s (pc' := 827) (lv' := [(3, .int 0), (2, .ref 82), (1, .ref 1), (0, .ref 0)]) (st' := [.ref 82, .int (-1)]) rfl rfl rfl ?_
  refine go_s (pc' := 828) (lv' := [(3, .int 0), (2, .ref 82), (1, .ref 1), (0, .ref 0)]) (st' := [.ref 0, .ref 82, .int (-1)]) rfl rfl rfl ?_
  refine go_s (pc' := 829) (lv' := [(3, .int 0), (2, .ref 82), (1, .ref 1), (0, .ref 0)]) (st' := [.int 0, .ref 0, .ref 82, .int (-1)]) rfl rfl rfl ?_
  refine go_iconst (v := 1) rfl (by decide) ?_
  refine go_b2 (v := 1) rfl rfl (fun _ => rfl) (by decide) ?_
  refine go_ial (v := a1) rfl hs (by decide) e1 ?_
  refine go_c rfl rfl (ab_cal_v (As := [.int a1]) (rest := [.int (-1)]) rfl rfl rfl (ab_fo qm p1_o_p1_Hm_82 (by decide)) rfl rfl rfl rfl) (lv0 := [(0, .ref 82), (1, .int a1)]) rfl (m_come qm a1) (fun r0 g2 hr => ?_)
  obtain ⟨rfl, yp⟩ := hr
  have hs := p1_scr2 hs yp
  show ab_go 1000 ab_M_L_law 835 [(3, .int 0), (2, .ref 82), (1, .ref 1), (0, .ref 0)] [.int (-1), .int (-1)] g2 _
  refine go_ict (tgt := 1038) rfl (by decide) (ab_cd_rf _) ?_
  exact p1_tail hs yp.1 yp.2.1
set_option maxHeartbeats 16000000 in
set_option maxRecDepth 20000 in
theorem p1_case_24 {g : ab_H} {xs : Nat → Int32} (q : ab_sim p1_Sx p1_Hx g) (hm : ∀ a, 81 < a → a < 120 → g.2.2 a = p1_H.2.2 a) (hs : ab_rd g 0 = some (.inl (0, 6, .inl xs))) : ab_go 1000 ab_M_L_law 840 [(3, .int 0), (2, .ref 82), (1, .ref 1), (0, .ref 0)] [] g p1_Q := by
  obtain ⟨a1, e1⟩ : ∃ a, xs 1 = a := ⟨_, rfl⟩
  obtain ⟨a2, e2⟩ : ∃ a, xs 2 = a := ⟨_, rfl⟩
  obtain ⟨a3, e3⟩ : ∃ a, xs 3 = a := ⟨_, rfl⟩
  obtain ⟨a4, e4⟩ : ∃ a, xs 4 = a := ⟨_, rfl⟩
  obtain ⟨a5, e5⟩ : ∃ a, xs 5 = a := ⟨_, rfl⟩
  refine go_s (pc' := 841) (lv' := [(3, .int 0), (2, .ref 82), (1, .ref 1), (0, .ref 0)]) (st' := [.ref 1]) rfl rfl rfl ?_
  refine go_c rfl rfl (ab_cal_v (As := []) (rest := []) rfl rfl rfl (ab_fo q p1_o_p1_Hx_1 (by decide)) rfl rfl rfl rfl) (lv0 := [(0, .ref 1)]) rfl (x_undo q ) (fun r0 g1 hr => ?_)
  obtain ⟨rfl, xp⟩ := hr
  have qm := p1_toM q hm xp
  have hs := p1_scr hs xp
  show ab_go 1000 ab_M_L_law 844 [(3, .int 0), (2, .ref 82), (1, .ref 1), (0, .ref 0)] [.int (-4)] g1 _
  refine go_s (pc' := 845) (lv' := [(3, .int 0), (2, .ref 82), (1, .ref 1), (0, .ref 0)]) (st' := [.ref 82, .int (-4)]) rfl rfl rfl ?_
  refine go_c rfl rfl (ab_cal_v (As := []) (rest := [.int (-4)]) rfl rfl rfl (ab_fo qm p1_o_p1_Hm_82 (by decide)) rfl rfl rfl rfl) (lv0 := [(0, .ref 82)]) rfl (m_undo qm ) (fun r0 g2 hr => ?_)
  obtain ⟨rfl, yp⟩ := hr
  have hs := p1_scr2 hs yp
  show ab_go 1000 ab_M_L_law 848 [(3, .int 0), (2, .ref 82), (1, .ref 1), (0, .ref 0)] [.int (-4), .int (-4)] g2 _
  refine go_ict (tgt := 1038) rfl (by decide) (ab_cd_rf _) ?_
  exact p1_tail hs yp.1 yp.2.1
set_option maxHeartbeats 16000000 in
set_option maxRecDepth 20000 in
theorem p1_case_25 {g : ab_H} {xs : Nat → Int32} (q : ab_sim p1_Sx p1_Hx g) (hm : ∀ a, 81 < a → a < 120 → g.2.2 a = p1_H.2.2 a) (hs : ab_rd g 0 = some (.inl (0, 6, .inl xs))) : ab_go 1000 ab_M_L_law 853 [(3, .int 0), (2, .ref 82), (1, .ref 1), (0, .ref 0)] [] g p1_Q := by
  obtain ⟨a1, e1⟩ : ∃ a, xs 1 = a := ⟨_, rfl⟩
  obtain ⟨a2, e2⟩ : ∃ a, xs 2 = a := ⟨_, rfl⟩
  obtain ⟨a3, e3⟩ : ∃ a, xs 3 = a := ⟨_, rfl⟩
  obtain ⟨a4, e4⟩ : ∃ a, xs 4 = a := ⟨_, rfl⟩
  obtain ⟨a5, e5⟩ : ∃ a, xs 5 = a := ⟨_, rfl⟩
  refine go_s (pc' := 854) (lv' := [(3, .int 0), (2, .ref 82), (1, .ref 1), (0, .ref 0)]) (st' := [.ref 1]) rfl rfl rfl ?_
  refine go_s (pc' := 855) (lv' := [(3, .int 0), (2, .ref 82), (1, .ref 1), (0, .ref 0)]) (st' := [.ref 0, .ref 1]) rfl rfl rfl ?_
  refine go_s (pc' := 856) (lv' := [(3, .int 0), (2, .ref 82), (1, .ref 1), (0, .ref 0)]) (st' := [.int 0, .ref 0, .ref 1]) rfl rfl rfl ?_
  refine go_iconst (v := 1) rfl (by decide) ?_
  refine go_b2 (v := 1) rfl rfl (fun _ => rfl) (by decide) ?_
  refine go_ial (v := a1) rfl hs (by decide) e1 ?_
  refine go_c rfl rfl (ab_cal_v (As := [.int a1]) (rest := []) rfl rfl rfl (ab_fo q p1_o_p1_Hx_1 (by decide)) rfl rfl rfl rfl) (lv0 := [(0, .ref 1), (1, .int a1)]) rfl (x_run q a1) (fun r0 g1 hr => ?_)
  obtain ⟨rfl, xp⟩ := hr
  have qm := p1_toM q hm xp
  have hs := p1_scr hs xp
  show ab_go 1000 ab_M_L_law 862 [(3, .int 0), (2, .ref 82), (1, .ref 1), (0, .ref 0)] [.int (an_run a1)] g1 _
  refine go_s (pc' := 863) (lv' := [(3, .int 0), (2, .ref 82), (1, .ref 1), (0, .ref 0)]) (st' := [.ref 82, .int (an_run a1)]) rfl rfl rfl ?_
  refine go_s (pc' := 864) (lv' := [(3, .int 0), (2, .ref 82), (1, .ref 1), (0, .ref 0)]) (st' := [.ref 0, .ref 82, .int (an_run a1)]) rfl rfl rfl ?_
  refine go_s (pc' := 865) (lv' := [(3, .int 0), (2, .ref 82), (1, .ref 1), (0, .ref 0)]) (st' := [.int 0, .ref 0, .ref 82, .int (an_run a1)]) rfl rfl rfl ?_
  refine go_iconst (v := 1) rfl (by decide) ?_
  refine go_b2 (v := 1) rfl rfl (fun _ => rfl) (by decide) ?_
  refine go_ial (v := a1) rfl hs (by decide) e1 ?_
  refine go_c rfl rfl (ab_cal_v (As := [.int a1]) (rest := [.int (an_run a1)]) rfl rfl rfl (ab_fo qm p1_o_p1_Hm_82 (by decide)) rfl rfl rfl rfl) (lv0 := [(0, .ref 82), (1, .int a1)]) rfl (m_run qm a1) (fun r0 g2 hr => ?_)
  obtain ⟨rfl, yp⟩ := hr
  have hs := p1_scr2 hs yp
  show ab_go 1000 ab_M_L_law 871 [(3, .int 0), (2, .ref 82), (1, .ref 1), (0, .ref 0)] [.int (an_run a1), .int (an_run a1)] g2 _
  refine go_ict (tgt := 1038) rfl (by decide) (ab_cd_rf _) ?_
  exact p1_tail hs yp.1 yp.2.1
set_option maxHeartbeats 16000000 in
set_option maxRecDepth 20000 in
theorem p1_case_26 {g : ab_H} {xs : Nat → Int32} (q : ab_sim p1_Sx p1_Hx g) (hm : ∀ a, 81 < a → a < 120 → g.2.2 a = p1_H.2.2 a) (hs : ab_rd g 0 = some (.inl (0, 6, .inl xs))) : ab_go 1000 ab_M_L_law 876 [(3, .int 0), (2, .ref 82), (1, .ref 1), (0, .ref 0)] [] g p1_Q := by
  obtain ⟨a1, e1⟩ : ∃ a, xs 1 = a := ⟨_, rfl⟩
  obtain ⟨a2, e2⟩ : ∃ a, xs 2 = a := ⟨_, rfl⟩
  obtain ⟨a3, e3⟩ : ∃ a, xs 3 = a := ⟨_, rfl⟩
  obtain ⟨a4, e4⟩ : ∃ a, xs 4 = a := ⟨_, rfl⟩
  obtain ⟨a5, e5⟩ : ∃ a, xs 5 = a := ⟨_, rfl⟩
  refine go_s (pc' := 877) (lv' := [(3, .int 0), (2, .ref 82), (1, .ref 1), (0, .ref 0)]) (st' := [.ref 1]) rfl rfl rfl ?_
  refine go_s (pc' := 878) (lv' := [(3, .int 0), (2, .ref 82), (1, .ref 1), (0, .ref 0)]) (st' := [.ref 0, .ref 1]) rfl rfl rfl ?_
  refine go_s (pc' := 879) (lv' := [(3, .int 0), (2, .ref 82), (1, .ref 1), (0, .ref 0)]) (st' := [.int 0, .ref 0, .ref 1]) rfl rfl rfl ?_
  refine go_iconst (v := 1) rfl (by decide) ?_
  refine go_b2 (v := 1) rfl rfl (fun _ => rfl) (by decide) ?_
  refine go_ial (v := a1) rfl hs (by decide) e1 ?_
  refine go_s (pc' := 883) (lv' := [(3, .int 0), (2, .ref 82), (1, .ref 1), (0, .ref 0)]) (st' := [.ref 0, .int a1, .ref 1]) rfl rfl rfl ?_
  refine go_s (pc' := 884) (lv' := [(3, .int 0), (2, .ref 82), (1, .ref 1), (0, .ref 0)]) (st' := [.int 0, .ref 0, .int a1, .ref 1]) rfl rfl rfl ?_
  refine go_iconst (v := 2) rfl (by decide) ?_
  refine go_b2 (v := 2) rfl rfl (fun _ => rfl) (by decide) ?_
  refine go_ial (v := a2) rfl hs (by decide) e2 ?_
  refine go_s (pc' := 888) (lv' := [(3, .int 0), (2, .ref 82), (1, .ref 1), (0, .ref 0)]) (st' := [.ref 0, .int a2, .int a1, .ref 1]) rfl rfl rfl ?_
  refine go_s (pc' := 889) (lv' := [(3, .int 0), (2, .ref 82), (1, .ref 1), (0, .ref 0)]) (st' := [.int 0, .ref 0, .int a2, .int a1, .ref 1]) rfl rfl rfl ?_
  refine go_iconst (v := 3) rfl (by decide) ?_
  refine go_b2 (v := 3) rfl rfl (fun _ => rfl) (by decide) ?_
  refine go_ial (v := a3) rfl hs (by decide) e3 ?_
  refine go_c rfl rfl (ab_cal_v (As := [.int a1, .int a2, .int a3]) (rest := []) rfl rfl rfl (ab_fo q p1_o_p1_Hx_1 (by decide)) rfl rfl rfl rfl) (lv0 := [(0, .ref 1), (1, .int a1), (2, .int a2), (3, .int a3)]) rfl (x_sheet q a1 a2 a3) (fun r0 g1 hr => ?_)
  obtain ⟨rfl, xp⟩ := hr
  have qm := p1_toM q hm xp
  have hs := p1_scr hs xp
  show ab_go 1000 ab_M_L_law 895 [(3, .int 0), (2, .ref 82), (1, .ref 1), (0, .ref 0)] [.int (an_sheet a1 a2 a3)] g1 _
  refine go_s (pc' := 896) (lv' := [(3, .int 0), (2, .ref 82), (1, .ref 1), (0, .ref 0)]) (st' := [.ref 82, .int (an_sheet a1 a2 a3)]) rfl rfl rfl ?_
  refine go_s (pc' := 897) (lv' := [(3, .int 0), (2, .ref 82), (1, .ref 1), (0, .ref 0)]) (st' := [.ref 0, .ref 82, .int (an_sheet a1 a2 a3)]) rfl rfl rfl ?_
  refine go_s (pc' := 898) (lv' := [(3, .int 0), (2, .ref 82), (1, .ref 1), (0, .ref 0)]) (st' := [.int 0, .ref 0, .ref 82, .int (an_sheet a1 a2 a3)]) rfl rfl rfl ?_
  refine go_iconst (v := 1) rfl (by decide) ?_
  refine go_b2 (v := 1) rfl rfl (fun _ => rfl) (by decide) ?_
  refine go_ial (v := a1) rfl hs (by decide) e1 ?_
  refine go_s (pc' := 902) (lv' := [(3, .int 0), (2, .ref 82), (1, .ref 1), (0, .ref 0)]) (st' := [.ref 0, .int a1, .ref 82, .int (an_sheet a1 a2 a3)]) rfl rfl rfl ?_
  refine go_s (pc' := 903) (lv' := [(3, .int 0), (2, .ref 82), (1, .ref 1), (0, .ref 0)]) (st' := [.int 0, .ref 0, .int a1, .ref 82, .int (an_sheet a1 a2 a3)]) rfl rfl rfl ?_
  refine go_iconst (v := 2) rfl (by decide) ?_
  refine go_b2 (v := 2) rfl rfl (fun _ => rfl) (by decide) ?_
  refine go_ial (v := a2) rfl hs (by decide) e2 ?_
  refine go_s (pc' := 907) (lv' := [(3, .int 0), (2, .ref 82), (1, .ref 1), (0, .ref 0)]) (st' := [.ref 0, .int a2, .int a1, .ref 82, .int (an_sheet a1 a2 a3)]) rfl rfl rfl ?_
  refine go_s (pc' := 908) (lv' := [(3, .int 0), (2, .ref 82), (1, .ref 1), (0, .ref 0)]) (st' := [.int 0, .ref 0, .int a2, .int a1, .ref 82, .int (an_sheet a1 a2 a3)]) rfl rfl rfl ?_
  refine go_iconst (v := 3) rfl (by decide) ?_
  refine go_b2 (v := 3) rfl rfl (fun _ => rfl) (by decide) ?_
  refine go_ial (v := a3) rfl hs (by decide) e3 ?_
  refine go_c rfl rfl (ab_cal_v (As := [.int a1, .int a2, .int a3]) (rest := [.int (an_sheet a1 a2 a3)]) rfl rfl rfl (ab_fo qm p1_o_p1_Hm_82 (by decide)) rfl rfl rfl rfl) (lv0 := [(0, .ref 82), (1, .int a1), (2, .int a2), (3, .int a3)]) rfl (m_sheet qm a1 a2 a3) (fun r0 g2 hr => ?_)
  obtain ⟨rfl, yp⟩ := hr
  have hs := p1_scr2 hs yp
  show ab_go 1000 ab_M_L_law 914 [(3, .int 0), (2, .ref 82), (1, .ref 1), (0, .ref 0)] [.int (an_sheet a1 a2 a3), .int (an_sheet a1 a2 a3)] g2 _
  refine go_ict (tgt := 1038) rfl (by decide) (ab_cd_rf _) ?_
  exact p1_tail hs yp.1 yp.2.1
set_option maxHeartbeats 16000000 in
set_option maxRecDepth 20000 in
theorem p1_case_27 {g : ab_H} {xs : Nat → Int32} (q : ab_sim p1_Sx p1_Hx g) (hm : ∀ a, 81 < a → a < 120 → g.2.2 a = p1_H.2.2 a) (hs : ab_rd g 0 = some (.inl (0, 6, .inl xs))) : ab_go 1000 ab_M_L_law 919 [(3, .int 0), (2, .ref 82), (1, .ref 1), (0, .ref 0)] [] g p1_Q := by
  obtain ⟨a1, e1⟩ : ∃ a, xs 1 = a := ⟨_, rfl⟩
  obtain ⟨a2, e2⟩ : ∃ a, xs 2 = a := ⟨_, rfl⟩
  obtain ⟨a3, e3⟩ : ∃ a, xs 3 = a := ⟨_, rfl⟩
  obtain ⟨a4, e4⟩ : ∃ a, xs 4 = a := ⟨_, rfl⟩
  obtain ⟨a5, e5⟩ : ∃ a, xs 5 = a := ⟨_, rfl⟩
  refine go_s (pc' := 920) (lv' := [(3, .int 0), (2, .ref 82), (1, .ref 1), (0, .ref 0)]) (st' := [.ref 1]) rfl rfl rfl ?_
  refine go_s (pc' := 921) (lv' := [(3, .int 0), (2, .ref 82), (1, .ref 1), (0, .ref 0)]) (st' := [.ref 0, .ref 1]) rfl rfl rfl ?_
  refine go_s (pc' := 922) (lv' := [(3, .int 0), (2, .ref 82), (1, .ref 1), (0, .ref 0)]) (st' := [.int 0, .ref 0, .ref 1]) rfl rfl rfl ?_
  refine go_iconst (v := 1) rfl (by decide) ?_
  refine go_b2 (v := 1) rfl rfl (fun _ => rfl) (by decide) ?_
  refine go_ial (v := a1) rfl hs (by decide) e1 ?_
  refine go_s (pc' := 926) (lv' := [(3, .int 0), (2, .ref 82), (1, .ref 1), (0, .ref 0)]) (st' := [.ref 0, .int a1, .ref 1]) rfl rfl rfl ?_
  refine go_s (pc' := 927) (lv' := [(3, .int 0), (2, .ref 82), (1, .ref 1), (0, .ref 0)]) (st' := [.int 0, .ref 0, .int a1, .ref 1]) rfl rfl rfl ?_
  refine go_iconst (v := 2) rfl (by decide) ?_
  refine go_b2 (v := 2) rfl rfl (fun _ => rfl) (by decide) ?_
  refine go_ial (v := a2) rfl hs (by decide) e2 ?_
  refine go_s (pc' := 931) (lv' := [(3, .int 0), (2, .ref 82), (1, .ref 1), (0, .ref 0)]) (st' := [.ref 0, .int a2, .int a1, .ref 1]) rfl rfl rfl ?_
  refine go_s (pc' := 932) (lv' := [(3, .int 0), (2, .ref 82), (1, .ref 1), (0, .ref 0)]) (st' := [.int 0, .ref 0, .int a2, .int a1, .ref 1]) rfl rfl rfl ?_
  refine go_iconst (v := 3) rfl (by decide) ?_
  refine go_b2 (v := 3) rfl rfl (fun _ => rfl) (by decide) ?_
  refine go_ial (v := a3) rfl hs (by decide) e3 ?_
  refine go_c rfl rfl (ab_cal_v (As := [.int a1, .int a2, .int a3]) (rest := []) rfl rfl rfl (ab_fo q p1_o_p1_Hx_1 (by decide)) rfl rfl rfl rfl) (lv0 := [(0, .ref 1), (1, .int a1), (2, .int a2), (3, .int a3)]) rfl (x_lay q a1 a2 a3) (fun r0 g1 hr => ?_)
  obtain ⟨rfl, xp⟩ := hr
  have qm := p1_toM q hm xp
  have hs := p1_scr hs xp
  show ab_go 1000 ab_M_L_law 938 [(3, .int 0), (2, .ref 82), (1, .ref 1), (0, .ref 0)] [.int (an_lay a1)] g1 _
  refine go_s (pc' := 939) (lv' := [(3, .int 0), (2, .ref 82), (1, .ref 1), (0, .ref 0)]) (st' := [.ref 82, .int (an_lay a1)]) rfl rfl rfl ?_
  refine go_s (pc' := 940) (lv' := [(3, .int 0), (2, .ref 82), (1, .ref 1), (0, .ref 0)]) (st' := [.ref 0, .ref 82, .int (an_lay a1)]) rfl rfl rfl ?_
  refine go_s (pc' := 941) (lv' := [(3, .int 0), (2, .ref 82), (1, .ref 1), (0, .ref 0)]) (st' := [.int 0, .ref 0, .ref 82, .int (an_lay a1)]) rfl rfl rfl ?_
  refine go_iconst (v := 1) rfl (by decide) ?_
  refine go_b2 (v := 1) rfl rfl (fun _ => rfl) (by decide) ?_
  refine go_ial (v := a1) rfl hs (by decide) e1 ?_
  refine go_s (pc' := 945) (lv' := [(3, .int 0), (2, .ref 82), (1, .ref 1), (0, .ref 0)]) (st' := [.ref 0, .int a1, .ref 82, .int (an_lay a1)]) rfl rfl rfl ?_
  refine go_s (pc' := 946) (lv' := [(3, .int 0), (2, .ref 82), (1, .ref 1), (0, .ref 0)]) (st' := [.int 0, .ref 0, .int a1, .ref 82, .int (an_lay a1)]) rfl rfl rfl ?_
  refine go_iconst (v := 2) rfl (by decide) ?_
  refine go_b2 (v := 2) rfl rfl (fun _ => rfl) (by decide) ?_
  refine go_ial (v := a2) rfl hs (by decide) e2 ?_
  refine go_s (pc' := 950) (lv' := [(3, .int 0), (2, .ref 82), (1, .ref 1), (0, .ref 0)]) (st' := [.ref 0, .int a2, .int a1, .ref 82, .int (an_lay a1)]) rfl rfl rfl ?_
  refine go_s (pc' := 951) (lv' := [(3, .int 0), (2, .ref 82), (1, .ref 1), (0, .ref 0)]) (st' := [.int 0, .ref 0, .int a2, .int a1, .ref 82, .int (an_lay a1)]) rfl rfl rfl ?_
  refine go_iconst (v := 3) rfl (by decide) ?_
  refine go_b2 (v := 3) rfl rfl (fun _ => rfl) (by decide) ?_
  refine go_ial (v := a3) rfl hs (by decide) e3 ?_
  refine go_c rfl rfl (ab_cal_v (As := [.int a1, .int a2, .int a3]) (rest := [.int (an_lay a1)]) rfl rfl rfl (ab_fo qm p1_o_p1_Hm_82 (by decide)) rfl rfl rfl rfl) (lv0 := [(0, .ref 82), (1, .int a1), (2, .int a2), (3, .int a3)]) rfl (m_lay qm a1 a2 a3) (fun r0 g2 hr => ?_)
  obtain ⟨rfl, yp⟩ := hr
  have hs := p1_scr2 hs yp
  show ab_go 1000 ab_M_L_law 957 [(3, .int 0), (2, .ref 82), (1, .ref 1), (0, .ref 0)] [.int (an_lay a1), .int (an_lay a1)] g2 _
  refine go_ict (tgt := 1038) rfl (by decide) (ab_cd_rf _) ?_
  exact p1_tail hs yp.1 yp.2.1
set_option maxHeartbeats 16000000 in
set_option maxRecDepth 20000 in
theorem p1_case_28 {g : ab_H} {xs : Nat → Int32} (q : ab_sim p1_Sx p1_Hx g) (hm : ∀ a, 81 < a → a < 120 → g.2.2 a = p1_H.2.2 a) (hs : ab_rd g 0 = some (.inl (0, 6, .inl xs))) : ab_go 1000 ab_M_L_law 962 [(3, .int 0), (2, .ref 82), (1, .ref 1), (0, .ref 0)] [] g p1_Q := by
  obtain ⟨a1, e1⟩ : ∃ a, xs 1 = a := ⟨_, rfl⟩
  obtain ⟨a2, e2⟩ : ∃ a, xs 2 = a := ⟨_, rfl⟩
  obtain ⟨a3, e3⟩ : ∃ a, xs 3 = a := ⟨_, rfl⟩
  obtain ⟨a4, e4⟩ : ∃ a, xs 4 = a := ⟨_, rfl⟩
  obtain ⟨a5, e5⟩ : ∃ a, xs 5 = a := ⟨_, rfl⟩
  refine go_s (pc' := 963) (lv' := [(3, .int 0), (2, .ref 82), (1, .ref 1), (0, .ref 0)]) (st' := [.ref 1]) rfl rfl rfl ?_
  refine go_s (pc' := 964) (lv' := [(3, .int 0), (2, .ref 82), (1, .ref 1), (0, .ref 0)]) (st' := [.ref 0, .ref 1]) rfl rfl rfl ?_
  refine go_s (pc' := 965) (lv' := [(3, .int 0), (2, .ref 82), (1, .ref 1), (0, .ref 0)]) (st' := [.int 0, .ref 0, .ref 1]) rfl rfl rfl ?_
  refine go_iconst (v := 1) rfl (by decide) ?_
  refine go_b2 (v := 1) rfl rfl (fun _ => rfl) (by decide) ?_
  refine go_ial (v := a1) rfl hs (by decide) e1 ?_
  refine go_s (pc' := 969) (lv' := [(3, .int 0), (2, .ref 82), (1, .ref 1), (0, .ref 0)]) (st' := [.ref 0, .int a1, .ref 1]) rfl rfl rfl ?_
  refine go_s (pc' := 970) (lv' := [(3, .int 0), (2, .ref 82), (1, .ref 1), (0, .ref 0)]) (st' := [.int 0, .ref 0, .int a1, .ref 1]) rfl rfl rfl ?_
  refine go_iconst (v := 2) rfl (by decide) ?_
  refine go_b2 (v := 2) rfl rfl (fun _ => rfl) (by decide) ?_
  refine go_ial (v := a2) rfl hs (by decide) e2 ?_
  refine go_s (pc' := 974) (lv' := [(3, .int 0), (2, .ref 82), (1, .ref 1), (0, .ref 0)]) (st' := [.ref 0, .int a2, .int a1, .ref 1]) rfl rfl rfl ?_
  refine go_s (pc' := 975) (lv' := [(3, .int 0), (2, .ref 82), (1, .ref 1), (0, .ref 0)]) (st' := [.int 0, .ref 0, .int a2, .int a1, .ref 1]) rfl rfl rfl ?_
  refine go_iconst (v := 3) rfl (by decide) ?_
  refine go_b2 (v := 3) rfl rfl (fun _ => rfl) (by decide) ?_
  refine go_ial (v := a3) rfl hs (by decide) e3 ?_
  refine go_s (pc' := 979) (lv' := [(3, .int 0), (2, .ref 82), (1, .ref 1), (0, .ref 0)]) (st' := [.ref 0, .int a3, .int a2, .int a1, .ref 1]) rfl rfl rfl ?_
  refine go_s (pc' := 980) (lv' := [(3, .int 0), (2, .ref 82), (1, .ref 1), (0, .ref 0)]) (st' := [.int 0, .ref 0, .int a3, .int a2, .int a1, .ref 1]) rfl rfl rfl ?_
  refine go_iconst (v := 4) rfl (by decide) ?_
  refine go_b2 (v := 4) rfl rfl (fun _ => rfl) (by decide) ?_
  refine go_ial (v := a4) rfl hs (by decide) e4 ?_
  refine go_c rfl rfl (ab_cal_v (As := [.int a1, .int a2, .int a3, .int a4]) (rest := []) rfl rfl rfl (ab_fo q p1_o_p1_Hx_1 (by decide)) rfl rfl rfl rfl) (lv0 := [(0, .ref 1), (1, .int a1), (2, .int a2), (3, .int a3), (4, .int a4)]) rfl (x_row q a1 a2 a3 a4) (fun r0 g1 hr => ?_)
  obtain ⟨rfl, xp⟩ := hr
  have qm := p1_toM q hm xp
  have hs := p1_scr hs xp
  show ab_go 1000 ab_M_L_law 986 [(3, .int 0), (2, .ref 82), (1, .ref 1), (0, .ref 0)] [.int (an_row a1 a2 a4)] g1 _
  refine go_s (pc' := 987) (lv' := [(3, .int 0), (2, .ref 82), (1, .ref 1), (0, .ref 0)]) (st' := [.ref 82, .int (an_row a1 a2 a4)]) rfl rfl rfl ?_
  refine go_s (pc' := 988) (lv' := [(3, .int 0), (2, .ref 82), (1, .ref 1), (0, .ref 0)]) (st' := [.ref 0, .ref 82, .int (an_row a1 a2 a4)]) rfl rfl rfl ?_
  refine go_s (pc' := 989) (lv' := [(3, .int 0), (2, .ref 82), (1, .ref 1), (0, .ref 0)]) (st' := [.int 0, .ref 0, .ref 82, .int (an_row a1 a2 a4)]) rfl rfl rfl ?_
  refine go_iconst (v := 1) rfl (by decide) ?_
  refine go_b2 (v := 1) rfl rfl (fun _ => rfl) (by decide) ?_
  refine go_ial (v := a1) rfl hs (by decide) e1 ?_
  refine go_s (pc' := 993) (lv' := [(3, .int 0), (2, .ref 82), (1, .ref 1), (0, .ref 0)]) (st' := [.ref 0, .int a1, .ref 82, .int (an_row a1 a2 a4)]) rfl rfl rfl ?_
  refine go_s (pc' := 994) (lv' := [(3, .int 0), (2, .ref 82), (1, .ref 1), (0, .ref 0)]) (st' := [.int 0, .ref 0, .int a1, .ref 82, .int (an_row a1 a2 a4)]) rfl rfl rfl ?_
  refine go_iconst (v := 2) rfl (by decide) ?_
  refine go_b2 (v := 2) rfl rfl (fun _ => rfl) (by decide) ?_
  refine go_ial (v := a2) rfl hs (by decide) e2 ?_
  refine go_s (pc' := 998) (lv' := [(3, .int 0), (2, .ref 82), (1, .ref 1), (0, .ref 0)]) (st' := [.ref 0, .int a2, .int a1, .ref 82, .int (an_row a1 a2 a4)]) rfl rfl rfl ?_
  refine go_s (pc' := 999) (lv' := [(3, .int 0), (2, .ref 82), (1, .ref 1), (0, .ref 0)]) (st' := [.int 0, .ref 0, .int a2, .int a1, .ref 82, .int (an_row a1 a2 a4)]) rfl rfl rfl ?_
  refine go_iconst (v := 3) rfl (by decide) ?_
  refine go_b2 (v := 3) rfl rfl (fun _ => rfl) (by decide) ?_
  refine go_ial (v := a3) rfl hs (by decide) e3 ?_
  refine go_s (pc' := 1003) (lv' := [(3, .int 0), (2, .ref 82), (1, .ref 1), (0, .ref 0)]) (st' := [.ref 0, .int a3, .int a2, .int a1, .ref 82, .int (an_row a1 a2 a4)]) rfl rfl rfl ?_
  refine go_s (pc' := 1004) (lv' := [(3, .int 0), (2, .ref 82), (1, .ref 1), (0, .ref 0)]) (st' := [.int 0, .ref 0, .int a3, .int a2, .int a1, .ref 82, .int (an_row a1 a2 a4)]) rfl rfl rfl ?_
  refine go_iconst (v := 4) rfl (by decide) ?_
  refine go_b2 (v := 4) rfl rfl (fun _ => rfl) (by decide) ?_
  refine go_ial (v := a4) rfl hs (by decide) e4 ?_
  refine go_c rfl rfl (ab_cal_v (As := [.int a1, .int a2, .int a3, .int a4]) (rest := [.int (an_row a1 a2 a4)]) rfl rfl rfl (ab_fo qm p1_o_p1_Hm_82 (by decide)) rfl rfl rfl rfl) (lv0 := [(0, .ref 82), (1, .int a1), (2, .int a2), (3, .int a3), (4, .int a4)]) rfl (m_row qm a1 a2 a3 a4) (fun r0 g2 hr => ?_)
  obtain ⟨rfl, yp⟩ := hr
  have hs := p1_scr2 hs yp
  show ab_go 1000 ab_M_L_law 1010 [(3, .int 0), (2, .ref 82), (1, .ref 1), (0, .ref 0)] [.int (an_row a1 a2 a4), .int (an_row a1 a2 a4)] g2 _
  refine go_ict (tgt := 1038) rfl (by decide) (ab_cd_rf _) ?_
  exact p1_tail hs yp.1 yp.2.1
set_option maxHeartbeats 16000000 in
set_option maxRecDepth 20000 in
theorem p1_case_29 {g : ab_H} {xs : Nat → Int32} (q : ab_sim p1_Sx p1_Hx g) (hm : ∀ a, 81 < a → a < 120 → g.2.2 a = p1_H.2.2 a) (hs : ab_rd g 0 = some (.inl (0, 6, .inl xs))) : ab_go 1000 ab_M_L_law 1015 [(3, .int 0), (2, .ref 82), (1, .ref 1), (0, .ref 0)] [] g p1_Q := by
  obtain ⟨a1, e1⟩ : ∃ a, xs 1 = a := ⟨_, rfl⟩
  obtain ⟨a2, e2⟩ : ∃ a, xs 2 = a := ⟨_, rfl⟩
  obtain ⟨a3, e3⟩ : ∃ a, xs 3 = a := ⟨_, rfl⟩
  obtain ⟨a4, e4⟩ : ∃ a, xs 4 = a := ⟨_, rfl⟩
  obtain ⟨a5, e5⟩ : ∃ a, xs 5 = a := ⟨_, rfl⟩
  refine go_s (pc' := 1016) (lv' := [(3, .int 0), (2, .ref 82), (1, .ref 1), (0, .ref 0)]) (st' := [.ref 1]) rfl rfl rfl ?_
  refine go_s (pc' := 1017) (lv' := [(3, .int 0), (2, .ref 82), (1, .ref 1), (0, .ref 0)]) (st' := [.ref 0, .ref 1]) rfl rfl rfl ?_
  refine go_s (pc' := 1018) (lv' := [(3, .int 0), (2, .ref 82), (1, .ref 1), (0, .ref 0)]) (st' := [.int 0, .ref 0, .ref 1]) rfl rfl rfl ?_
  refine go_iconst (v := 1) rfl (by decide) ?_
  refine go_b2 (v := 1) rfl rfl (fun _ => rfl) (by decide) ?_
  refine go_ial (v := a1) rfl hs (by decide) e1 ?_
  refine go_c rfl rfl (ab_cal_v (As := [.int a1]) (rest := []) rfl rfl rfl (ab_fo q p1_o_p1_Hx_1 (by decide)) rfl rfl rfl rfl) (lv0 := [(0, .ref 1), (1, .int a1)]) rfl (x_count q a1) (fun r0 g1 hr => ?_)
  obtain ⟨rfl, xp⟩ := hr
  have qm := p1_toM q hm xp
  have hs := p1_scr hs xp
  show ab_go 1000 ab_M_L_law 1024 [(3, .int 0), (2, .ref 82), (1, .ref 1), (0, .ref 0)] [.int (an_count a1)] g1 _
  refine go_s (pc' := 1025) (lv' := [(3, .int 0), (2, .ref 82), (1, .ref 1), (0, .ref 0)]) (st' := [.ref 82, .int (an_count a1)]) rfl rfl rfl ?_
  refine go_s (pc' := 1026) (lv' := [(3, .int 0), (2, .ref 82), (1, .ref 1), (0, .ref 0)]) (st' := [.ref 0, .ref 82, .int (an_count a1)]) rfl rfl rfl ?_
  refine go_s (pc' := 1027) (lv' := [(3, .int 0), (2, .ref 82), (1, .ref 1), (0, .ref 0)]) (st' := [.int 0, .ref 0, .ref 82, .int (an_count a1)]) rfl rfl rfl ?_
  refine go_iconst (v := 1) rfl (by decide) ?_
  refine go_b2 (v := 1) rfl rfl (fun _ => rfl) (by decide) ?_
  refine go_ial (v := a1) rfl hs (by decide) e1 ?_
  refine go_c rfl rfl (ab_cal_v (As := [.int a1]) (rest := [.int (an_count a1)]) rfl rfl rfl (ab_fo qm p1_o_p1_Hm_82 (by decide)) rfl rfl rfl rfl) (lv0 := [(0, .ref 82), (1, .int a1)]) rfl (m_count qm a1) (fun r0 g2 hr => ?_)
  obtain ⟨rfl, yp⟩ := hr
  have hs := p1_scr2 hs yp
  show ab_go 1000 ab_M_L_law 1033 [(3, .int 0), (2, .ref 82), (1, .ref 1), (0, .ref 0)] [.int (an_count a1), .int (an_count a1)] g2 _
  refine go_ict (tgt := 1038) rfl (by decide) (ab_cd_rf _) ?_
  exact p1_tail hs yp.1 yp.2.1
theorem p1_and (x : Int32) : 0 ≤ (x &&& 31).toInt ∧ (x &&& 31).toInt ≤ 31 := by
  have h1 : (x &&& 31).toBitVec = x.toBitVec &&& 31#32 := rfl
  have h2 : (x &&& 31).toInt = ((x.toBitVec &&& 31#32).toNat : Int) := by
    show (x &&& 31).toBitVec.toInt = _
    rw [h1, BitVec.toInt_eq_toNat_of_lt]
    have : (x.toBitVec &&& 31#32).toNat ≤ 31 := by
      rw [BitVec.toNat_and]
      exact Nat.and_le_right
    omega
  have h3 : (x.toBitVec &&& 31#32).toNat ≤ 31 := by
    rw [BitVec.toNat_and]
    exact Nat.and_le_right
  omega
set_option maxHeartbeats 16000000 in
set_option maxRecDepth 20000 in
theorem p1_head {g : ab_H} {xs : Nat → Int32} (q : ab_sim p1_Sx p1_Hx g) (hm : ∀ a, 81 < a → a < 120 → g.2.2 a = p1_H.2.2 a) (hs : ab_rd g 0 = some (.inl (0, 6, .inl xs))) : ab_go 1000 ab_M_L_law 18 [(3, .int 0), (2, .ref 82), (1, .ref 1), (0, .ref 0)] [] g p1_Q := by
  refine go_s (pc' := 19) (lv' := [(3, .int 0), (2, .ref 82), (1, .ref 1), (0, .ref 0)]) (st' := [.int 0]) rfl rfl rfl ?_
  refine go_s (pc' := 20) (lv' := [(3, .int 0), (2, .ref 82), (1, .ref 1), (0, .ref 0)]) (st' := [.ref 0, .int 0]) rfl rfl rfl ?_
  refine go_len (v := 6) rfl hs (by decide) (by decide) ?_
  refine go_bipush (v := 6) rfl (by decide) ?_
  refine go_b2 (v := 0) rfl rfl (fun _ => rfl) (by decide) ?_
  refine go_icf rfl (by decide) ?_
  refine go_s (pc' := 28) (lv' := [(3, .int 0), (2, .ref 82), (1, .ref 1), (0, .ref 0)]) (st' := [.ref 0]) rfl rfl rfl ?_
  refine go_s (pc' := 29) (lv' := [(3, .int 0), (2, .ref 82), (1, .ref 1), (0, .ref 0)]) (st' := [.int 0, .ref 0]) rfl rfl rfl ?_
  refine go_ial (v := xs 0) rfl hs (by decide) rfl ?_
  refine go_bipush (v := 31) rfl (by decide) ?_
  refine go_b2 (v := xs 0 &&& 31) rfl rfl (fun _ => rfl) rfl ?_
  have hk := p1_and (xs 0)
  generalize xs 0 &&& 31 = kk at hk ⊢
  by_cases c0 : kk.toInt = 0
  · refine go_tin (tgt := 168) 0 rfl c0 (by decide) rfl (by decide) ?_
    exact p1_case_0 q hm hs
  by_cases c1 : kk.toInt = 1
  · refine go_tin (tgt := 221) 1 rfl c1 (by decide) rfl (by decide) ?_
    exact p1_case_1 q hm hs
  by_cases c2 : kk.toInt = 2
  · refine go_tin (tgt := 244) 2 rfl c2 (by decide) rfl (by decide) ?_
    exact p1_case_2 q hm hs
  by_cases c3 : kk.toInt = 3
  · refine go_tin (tgt := 257) 3 rfl c3 (by decide) rfl (by decide) ?_
    exact p1_case_3 q hm hs
  by_cases c4 : kk.toInt = 4
  · refine go_tin (tgt := 270) 4 rfl c4 (by decide) rfl (by decide) ?_
    exact p1_case_4 q hm hs
  by_cases c5 : kk.toInt = 5
  · refine go_tin (tgt := 303) 5 rfl c5 (by decide) rfl (by decide) ?_
    exact p1_case_5 q hm hs
  by_cases c6 : kk.toInt = 6
  · refine go_tin (tgt := 336) 6 rfl c6 (by decide) rfl (by decide) ?_
    exact p1_case_6 q hm hs
  by_cases c7 : kk.toInt = 7
  · refine go_tin (tgt := 369) 7 rfl c7 (by decide) rfl (by decide) ?_
    exact p1_case_7 q hm hs
  by_cases c8 : kk.toInt = 8
  · refine go_tin (tgt := 382) 8 rfl c8 (by decide) rfl (by decide) ?_
    exact p1_case_8 q hm hs
  by_cases c9 : kk.toInt = 9
  · refine go_tin (tgt := 395) 9 rfl c9 (by decide) rfl (by decide) ?_
    exact p1_case_9 q hm hs
  by_cases c10 : kk.toInt = 10
  · refine go_tin (tgt := 428) 10 rfl c10 (by decide) rfl (by decide) ?_
    exact p1_case_10 q hm hs
  by_cases c11 : kk.toInt = 11
  · refine go_tin (tgt := 451) 11 rfl c11 (by decide) rfl (by decide) ?_
    exact p1_case_11 q hm hs
  by_cases c12 : kk.toInt = 12
  · refine go_tin (tgt := 474) 12 rfl c12 (by decide) rfl (by decide) ?_
    exact p1_case_12 q hm hs
  by_cases c13 : kk.toInt = 13
  · refine go_tin (tgt := 497) 13 rfl c13 (by decide) rfl (by decide) ?_
    exact p1_case_13 q hm hs
  by_cases c14 : kk.toInt = 14
  · refine go_tin (tgt := 530) 14 rfl c14 (by decide) rfl (by decide) ?_
    exact p1_case_14 q hm hs
  by_cases c15 : kk.toInt = 15
  · refine go_tin (tgt := 563) 15 rfl c15 (by decide) rfl (by decide) ?_
    exact p1_case_15 q hm hs
  by_cases c16 : kk.toInt = 16
  · refine go_tin (tgt := 626) 16 rfl c16 (by decide) rfl (by decide) ?_
    exact p1_case_16 q hm hs
  by_cases c17 : kk.toInt = 17
  · refine go_tin (tgt := 639) 17 rfl c17 (by decide) rfl (by decide) ?_
    exact p1_case_17 q hm hs
  by_cases c18 : kk.toInt = 18
  · refine go_tin (tgt := 672) 18 rfl c18 (by decide) rfl (by decide) ?_
    exact p1_case_18 q hm hs
  by_cases c19 : kk.toInt = 19
  · refine go_tin (tgt := 705) 19 rfl c19 (by decide) rfl (by decide) ?_
    exact p1_case_19 q hm hs
  by_cases c20 : kk.toInt = 20
  · refine go_tin (tgt := 728) 20 rfl c20 (by decide) rfl (by decide) ?_
    exact p1_case_20 q hm hs
  by_cases c21 : kk.toInt = 21
  · refine go_tin (tgt := 761) 21 rfl c21 (by decide) rfl (by decide) ?_
    exact p1_case_21 q hm hs
  by_cases c22 : kk.toInt = 22
  · refine go_tin (tgt := 784) 22 rfl c22 (by decide) rfl (by decide) ?_
    exact p1_case_22 q hm hs
  by_cases c23 : kk.toInt = 23
  · refine go_tin (tgt := 817) 23 rfl c23 (by decide) rfl (by decide) ?_
    exact p1_case_23 q hm hs
  by_cases c24 : kk.toInt = 24
  · refine go_tin (tgt := 840) 24 rfl c24 (by decide) rfl (by decide) ?_
    exact p1_case_24 q hm hs
  by_cases c25 : kk.toInt = 25
  · refine go_tin (tgt := 853) 25 rfl c25 (by decide) rfl (by decide) ?_
    exact p1_case_25 q hm hs
  by_cases c26 : kk.toInt = 26
  · refine go_tin (tgt := 876) 26 rfl c26 (by decide) rfl (by decide) ?_
    exact p1_case_26 q hm hs
  by_cases c27 : kk.toInt = 27
  · refine go_tin (tgt := 919) 27 rfl c27 (by decide) rfl (by decide) ?_
    exact p1_case_27 q hm hs
  by_cases c28 : kk.toInt = 28
  · refine go_tin (tgt := 962) 28 rfl c28 (by decide) rfl (by decide) ?_
    exact p1_case_28 q hm hs
  by_cases c29 : kk.toInt = 29
  · refine go_tin (tgt := 1015) 29 rfl c29 (by decide) rfl (by decide) ?_
    exact p1_case_29 q hm hs
  refine go_tout (tgt := 1038) rfl (by omega) (by decide) ?_
  exact p1_tail hs q.1.symm q.2.1.symm
set_option maxRecDepth 20000 in
theorem p1_short {g : ab_H} {L : Nat} {xs : Nat → Int32} (hL : L < 6) (h1 : g.1 = 120) (h2 : g.2.1 = 21717) (hs : ab_rd g 0 = some (.inl (0, L, .inl xs))) : ab_go 1000 ab_M_L_law 18 [(3, .int 0), (2, .ref 82), (1, .ref 1), (0, .ref 0)] [] g p1_Q := by
  refine go_s (pc' := 19) (lv' := [(3, .int 0), (2, .ref 82), (1, .ref 1), (0, .ref 0)]) (st' := [.int 0]) rfl rfl rfl ?_
  refine go_s (pc' := 20) (lv' := [(3, .int 0), (2, .ref 82), (1, .ref 1), (0, .ref 0)]) (st' := [.ref 0, .int 0]) rfl rfl rfl ?_
  refine go_len (v := Int32.ofNat L) rfl hs (by decide) rfl ?_
  refine go_bipush (v := 6) rfl (by decide) ?_
  refine go_b2 (v := Int32.ofNat L - 6) rfl rfl (fun _ => rfl) rfl ?_
  refine go_ict (tgt := 1044) rfl (by decide) (by rcases (show L = 0 ∨ L = 1 ∨ L = 2 ∨ L = 3 ∨ L = 4 ∨ L = 5 by omega) with rfl | rfl | rfl | rfl | rfl | rfl <;> decide) ?_
  refine go_iconst (v := 1) rfl (by decide) ?_
  refine go_rz rfl rfl (by decide) ?_
  exact ⟨rfl, by rw [h1]; decide, by rw [h2]; decide⟩
theorem p1_run {L : Nat} (hL : L ≤ 6) (xs : Nat → Int32) : ∃ (n : Nat) (hF : ab_H), ab_ex ab_G n 1000 ab_M_L_law 0 [(0, .ref 0)] [] (ab_h0 L xs) = some (some (.int 1), hF) ∧ hF.1 ≤ 600001 ∧ hF.2.1 ≤ 7302250 := by
  have hgo : ab_go 1000 ab_M_L_law 0 [(0, .ref 0)] [] (ab_h0 L xs) p1_Q := by
    have s0 : ab_sim (fun a => a = 0) (1, 0, fun _ => ab_bad) (ab_h0 L xs) := ⟨rfl, rfl, fun a ha hS => by
      have ha : a < 1 := ha
      exact absurd (by omega) hS, fun a hS => ⟨by rw [show a = 0 from hS]; decide, rfl⟩⟩
    have s1 := s0.nw 17 (.inr (9, ab_df 9))
    refine go_s (pc' := 3) (lv' := [(0, .ref 0)]) (st' := [.ref 1]) (h' := ab_nw (ab_h0 L xs) 17 (.inr (9, ab_df 9))) rfl rfl rfl ?_
    refine go_s (pc' := 4) (lv' := [(0, .ref 0)]) (st' := [.ref 1, .ref 1]) (h' := ab_nw (ab_h0 L xs) 17 (.inr (9, ab_df 9))) rfl rfl rfl ?_
    refine go_c (M' := ab_M_X9_init) (A := [.ref 1]) (rest := [.ref 1]) rfl rfl rfl (lv0 := [(0, .ref 1)]) rfl (go_sim p1_Rb s1.1) (fun r0 g hr => ?_)
    obtain ⟨rfl, z1, w1, s2, f1⟩ := hr
    show ab_go 1000 ab_M_L_law 7 [(0, .ref 0)] [.ref 1] g _
    refine go_s (pc' := 8) (lv' := [(1, .ref 1), (0, .ref 0)]) (st' := []) rfl rfl rfl ?_
    have s3 := s2.nw 70 (.inr (10, ab_df 10))
    refine go_s (pc' := 11) (lv' := [(1, .ref 1), (0, .ref 0)]) (st' := [.ref 82]) (h' := ab_nw g 70 (.inr (10, ab_df 10))) rfl rfl (by show some (_, _, Value.ref g.1 :: _, _) = _; rw [z1]; rfl) ?_
    refine go_s (pc' := 12) (lv' := [(1, .ref 1), (0, .ref 0)]) (st' := [.ref 82, .ref 82]) (h' := ab_nw g 70 (.inr (10, ab_df 10))) rfl rfl rfl ?_
    refine go_c (M' := ab_M_X10_init) (A := [.ref 82]) (rest := [.ref 82]) rfl rfl rfl (lv0 := [(0, .ref 82)]) rfl (go_sim p1_RH s3.1) (fun r0 g2 hr => ?_)
    obtain ⟨rfl, z2, w2, s4, f2⟩ := hr
    show ab_go 1000 ab_M_L_law 15 [(1, .ref 1), (0, .ref 0)] [.ref 82] g2 _
    refine go_s (pc' := 16) (lv' := [(2, .ref 82), (1, .ref 1), (0, .ref 0)]) (st' := []) rfl rfl rfl ?_
    refine go_iconst (v := 0) rfl (by decide) ?_
    refine go_s (pc' := 18) (lv' := [(3, .int 0), (2, .ref 82), (1, .ref 1), (0, .ref 0)]) (st' := []) rfl rfl rfl ?_
    have hscr : g2.2.2 0 = .inl (0, L, .inl xs) := by
      rw [f2 0 rfl]
      show va_up g.2.2 g.1 _ 0 = _
      rw [va_up_ne _ _ (by rw [z1]; decide), f1 0 rfl]
      rfl
    have hs : ab_rd g2 0 = some (.inl (0, L, .inl xs)) := by
      unfold ab_rd
      rw [if_pos (by rw [z2]; decide), hscr]
    have hcell : ∀ a, 0 < a → a < 120 → g2.2.2 a = p1_H.2.2 a := fun a h0 h1 => (s4.2.2.1 a (by rw [s4.1, z2]; exact h1) (fun z => by have z : a = 0 := z; omega)).symm
    have q : ab_sim p1_Sx p1_Hx g2 := by
      refine ⟨z2.symm, w2.symm, fun a ha hS => ?_, fun a hS => ⟨hS.1, if_pos hS⟩⟩
      have ha : a < 120 := ha
      show (if a < 120 ∧ (a = 0 ∨ 81 < a) then ab_bad else p1_H.2.2 a) = _
      rw [if_neg (show ¬ (a < 120 ∧ (a = 0 ∨ 81 < a)) from hS)]
      have h0 : 0 < a := Nat.pos_of_ne_zero fun z => hS ⟨ha, Or.inl z⟩
      exact (hcell a h0 ha).symm
    have hm : ∀ a, 81 < a → a < 120 → g2.2.2 a = p1_H.2.2 a := fun a h0 h1 => hcell a (by omega) h1
    rcases Nat.lt_or_ge L 6 with h6 | h6
    · exact p1_short h6 z2 w2 hs
    · have e : L = 6 := by omega
      subst e
      exact p1_head q hm hs
  obtain ⟨n, r, hF, hx, hr, h1, h2⟩ := hgo
  subst hr
  exact ⟨n, hF, hx, h1, h2⟩
