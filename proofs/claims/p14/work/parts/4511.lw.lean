/-! ===== cases of the law, walked ===== -/
def lz_V (xs : Nat → Int32) (i : Nat) : Int64 := ((xs (i + 1)).toInt64 <<< (Int32.toInt64 32 &&& 63)) ||| ((xs (i + 2)).toInt64 &&& (4294967295 : Int64))
section LW
variable {z L d : Nat} {xs : Nat → Int32} {Q : Option Value → ab_H → Prop} {R : ab_H → Prop}
theorem lz_add {i : Nat} (k : Nat) (h : i + k < 100000) : Int32.ofNat i + Int32.ofNat k = Int32.ofNat (i + k) := by
  refine Int32.toInt_inj.mp ?_
  rw [Int32.toInt_add, mk_i (by omega), mk_i (by omega), mk_i (by omega), sx_bm (by omega) (by omega)]
  omega
theorem lz_r0 {h : ab_H} (hh : sx_h sx_SP z L xs h) : ab_rd h 0 = some (.inl (0, L, .inl xs)) := by
  unfold ab_rd
  rw [if_pos (by rw [hh.1]; exact Nat.succ_pos _), hh.2.2.1]
/-- what stands at a case's place -/
theorem lz_at (hL : L ≤ 3072) {a b : Nat} {β : Nat → Int} {lv : ab_L} {h : ab_H} (g : sx_at sx_SP z L xs (cs_S a b (sx_Y 2)) β lv [] h) : ∃ i : Nat, β 2 = i ∧ i + 6 ≤ L ∧ ab_lk lv 0 = some (.ref 0) ∧ ab_lk lv 1 = some (.ref 1) ∧ ab_lk lv 2 = some (.ref 82) ∧ ab_lk lv 3 = some (.int (Int32.ofNat i)) ∧ ab_rd h 0 = some (.inl (0, L, .inl xs)) ∧ gm a b h := by
  obtain ⟨g1, -, g3, -, g5, g6, hh⟩ := g
  have r0 := lz_r0 hh
  obtain ⟨w, w1, w2⟩ := g3 (126, .inl (0, sx_Y 1)) List.mem_cons_self
  have w1 : sx_fd h 126 = some w := w1
  unfold sx_fd at w1
  rw [show 126 / 128 = 0 by decide, r0] at w1
  have w1 : some (Value.int (Int32.ofNat L)) = some w := w1
  cases w1
  have w2 : (Int32.ofNat L).toInt = sx_ev β (sx_Y 1) := w2
  rw [sx_ev_Y, Int32.toInt_ofNat_of_lt (by omega)] at w2
  have n2 : 0 ≤ β 2 ∧ β 2 ≤ 3066 := g5 (2, 0, 3066) (List.mem_cons_of_mem _ List.mem_cons_self)
  have f1 : 6 + ((-1) * β 1 + (1 * β 2 + 0)) ≤ 0 := g6 (6, [(1, (-1)), (2, 1)]) List.mem_cons_self
  have rf : ∀ (j c : Nat), (j, (.inr (1, c) : sx_V)) ∈ (cs_S a b (sx_Y 2)).1 → ab_lk lv j = some (.ref c) := fun j c hm => by
    obtain ⟨w, a1, a2⟩ := g1 _ hm
    cases w with
    | ref x =>
      have a2 : c = x := a2
      rw [a2]
      exact a1
    | _ => exact a2.elim
  have ff : ∀ (j c : Nat), (j, (.inr (1, c) : sx_V)) ∈ (cs_S a b (sx_Y 2)).2.2.1 → sx_fd h j = some (.ref c) := fun j c hm => by
    obtain ⟨w, a1, a2⟩ := g3 _ hm
    cases w with
    | ref x =>
      have a2 : c = x := a2
      rw [a2]
      exact a1
    | _ => exact a2.elim
  obtain ⟨w, a1, a2⟩ := g1 (3, .inl (0, sx_Y 2)) (List.mem_cons_of_mem _ (List.mem_cons_of_mem _ (List.mem_cons_of_mem _ List.mem_cons_self)))
  refine ⟨(β 2).toNat, by omega, by omega, rf 0 0 List.mem_cons_self, rf 1 1 (List.mem_cons_of_mem _ List.mem_cons_self), rf 2 82 (List.mem_cons_of_mem _ (List.mem_cons_of_mem _ List.mem_cons_self)), ?_, r0, ff 135 a (List.mem_cons_of_mem _ List.mem_cons_self), ff 136 b (List.mem_cons_of_mem _ (List.mem_cons_of_mem _ List.mem_cons_self))⟩
  cases w with
  | int x =>
    have a2 : x.toInt = sx_ev β (sx_Y 2) := a2
    rw [sx_ev_Y] at a2
    have e : x = Int32.ofNat (β 2).toNat := by
      refine Int32.toInt_inj.mp ?_
      rw [mk_i (by omega)]
      omega
    rw [← e]
    exact a1
  | _ => exact a2.elim
/-- the head again -/
theorem lz_hd (hL : L ≤ 3072) {a b i : Nat} {β : Nat → Int} {lv : ab_L} {h : ab_H} (hb1 : β 1 = L) (hb2 : β 2 = i) (hi : i + 6 ≤ L) (f0 : ab_lk lv 0 = some (.ref 0)) (f1 : ab_lk lv 1 = some (.ref 1)) (f2 : ab_lk lv 2 = some (.ref 82)) (f3 : ab_lk lv 3 = some (.int (Int32.ofNat (i + 6)))) (hh : sx_h sx_SP z L xs h) (hm : gm a b h) : sx_at sx_SP z L xs (cs_S a b (6, [(2, 1)])) β lv [] h := by
  refine ⟨fun q hq => ?_, trivial, fun q hq => ?_, fun q hq => (by cases hq), fun q hq => ?_, fun q hq => ?_, hh⟩
  · rcases List.mem_cons.mp hq with rfl | hq
    · exact ⟨_, f0, rfl⟩
    rcases List.mem_cons.mp hq with rfl | hq
    · exact ⟨_, f1, rfl⟩
    rcases List.mem_cons.mp hq with rfl | hq
    · exact ⟨_, f2, rfl⟩
    rcases List.mem_cons.mp hq with rfl | hq
    · refine ⟨_, f3, ?_⟩
      show (Int32.ofNat (i + 6)).toInt = 6 + (1 * β 2 + 0)
      rw [mk_i (by omega)]
      omega
    cases hq
  · rcases List.mem_cons.mp hq with rfl | hq
    · refine ⟨.int (Int32.ofNat L), ?_, ?_⟩
      · show sx_fd h 126 = _
        unfold sx_fd
        rw [show 126 / 128 = 0 by decide, lz_r0 hh]
        rfl
      · show (Int32.ofNat L).toInt = sx_ev β (sx_Y 1)
        rw [sx_ev_Y, mk_i (by omega)]
        omega
    · exact gm_f hm q hq
  · rcases List.mem_cons.mp hq with rfl | hq
    · show 6 ≤ β 1 ∧ β 1 ≤ 3072
      omega
    rcases List.mem_cons.mp hq with rfl | hq
    · show 0 ≤ β 2 ∧ β 2 ≤ 3066
      omega
    cases hq
  · rw [List.mem_singleton.mp hq]
    show 6 + ((-1) * β 1 + (1 * β 2 + 0)) ≤ 0
    omega
theorem lz_b1 {a b : Nat} {e : sx_E} {β : Nat → Int} {lv : ab_L} {h : ab_H} (hL : L ≤ 3072) (g : sx_at sx_SP z L xs (cs_S a b e) β lv [] h) : β 1 = L := by
  obtain ⟨-, -, g3, -, -, -, hh⟩ := g
  have r0 := lz_r0 hh
  obtain ⟨w, w1, w2⟩ := g3 (126, .inl (0, sx_Y 1)) List.mem_cons_self
  have w1 : sx_fd h 126 = some w := w1
  unfold sx_fd at w1
  rw [show 126 / 128 = 0 by decide, r0] at w1
  have w1 : some (Value.int (Int32.ofNat L)) = some w := w1
  cases w1
  have w2 : (Int32.ofNat L).toInt = sx_ev β (sx_Y 1) := w2
  rw [sx_ev_Y, Int32.toInt_ofNat_of_lt (by omega)] at w2
  exact w2.symm
theorem lz_c1 : ∃ fs, sx_cel sx_SP 1 = some (.inr (9, fs)) := ⟨_, rfl⟩
theorem lz_c82 : ∃ fs, sx_cel sx_SP 82 = some (.inr (10, fs)) := ⟨_, rfl⟩
theorem lz_r1 {h : ab_H} (hh : sx_h sx_SP z L xs h) : ∃ ws, ab_rd h 1 = some (.inr (9, ws)) := by
  obtain ⟨fs, hc⟩ := lz_c1
  obtain ⟨ws, r, -⟩ := gd_o hc hh
  exact ⟨ws, r⟩
theorem lz_r82 {h : ab_H} (hh : sx_h sx_SP z L xs h) : ∃ ws, ab_rd h 82 = some (.inr (10, ws)) := by
  obtain ⟨fs, hc⟩ := lz_c82
  obtain ⟨ws, r, -⟩ := gd_o hc hh
  exact ⟨ws, r⟩
theorem lz_0 (hL : L ≤ 3072) {a b : Nat} (J : Nat → Int32 → ab_H → Prop) (k1 : ∀ (i : Nat) (h : ab_H), i + 6 ≤ L → sx_h sx_SP z L xs h → gm a b h → R h → ab_go d ab_M_X9_feed 0 [(0, .ref 1), (1, .long (lz_V xs i))] [] h (fun r h1 => ∃ v1, r = some (.int v1) ∧ sx_h sx_SP z L xs h1 ∧ J i v1 h1)) (k2 : ∀ (i : Nat) (v1 : Int32) (h1 : ab_H), i + 6 ≤ L → sx_h sx_SP z L xs h1 → J i v1 h1 → ab_go d ab_M_X10_feed 0 [(0, .ref 82), (1, .long (lz_V xs i))] [] h1 (fun r h2 => ∃ v2, r = some (.int v2) ∧ sx_h sx_SP z L xs h2 ∧ ∃ a' b', cs_md a' b' ∧ gm a' b' h2 ∧ R h2 ∧ True)) : cs_step z L (d + 1) xs Q R 168 a b := fun β lv h g R IH => by
    have hh := g.2.2.2.2.2.2
    obtain ⟨i, hb, hi, f0, f1, f2, f3, r0, hm⟩ := lz_at hL g
    refine go_s (pc' := 169) (lv' := lv) (st' := [.ref 1]) (h' := h) rfl rfl (ig_ald f1) ?_
    refine go_s (pc' := 170) (lv' := lv) (st' := [.ref 0, .ref 1]) (h' := h) rfl rfl (ig_ald f0) ?_
    refine go_s (pc' := 171) (lv' := lv) (st' := [.int (Int32.ofNat i), .ref 0, .ref 1]) (h' := h) rfl rfl (po_ild (nL := 0) f3) ?_
    refine go_s (pc' := 172) (lv' := lv) (st' := [.int (Int32.ofNat 1), .int (Int32.ofNat i), .ref 0, .ref 1]) (h' := h) rfl rfl rfl ?_
    refine go_b2 (f := fun x y => x + y) (v := Int32.ofNat (i + 1)) rfl rfl (fun _ => rfl) (lz_add 1 (by omega)) ?_
    refine go_ial (v := xs (i + 1)) rfl r0 (mk_ix (by omega) (by omega)) (congrArg xs (mk_cl (by omega))) ?_
    refine go_i2l rfl rfl ?_
    refine go_bipush (v := 32) rfl (by decide) ?_
    refine go_ls (f := fun x y => x <<< (y.toInt64 &&& 63)) (v := ((Int32.toInt64 (xs (i + 1))) <<< (Int32.toInt64 32 &&& 63))) rfl rfl (fun _ => rfl) rfl ?_
    refine go_s (pc' := 179) (lv' := lv) (st' := [.ref 0, .long ((Int32.toInt64 (xs (i + 1))) <<< (Int32.toInt64 32 &&& 63)), .ref 1]) (h' := h) rfl rfl (ig_ald f0) ?_
    refine go_s (pc' := 180) (lv' := lv) (st' := [.int (Int32.ofNat i), .ref 0, .long ((Int32.toInt64 (xs (i + 1))) <<< (Int32.toInt64 32 &&& 63)), .ref 1]) (h' := h) rfl rfl (po_ild (nL := 0) f3) ?_
    refine go_s (pc' := 181) (lv' := lv) (st' := [.int (Int32.ofNat 2), .int (Int32.ofNat i), .ref 0, .long ((Int32.toInt64 (xs (i + 1))) <<< (Int32.toInt64 32 &&& 63)), .ref 1]) (h' := h) rfl rfl rfl ?_
    refine go_b2 (f := fun x y => x + y) (v := Int32.ofNat (i + 2)) rfl rfl (fun _ => rfl) (lz_add 2 (by omega)) ?_
    refine go_ial (v := xs (i + 2)) rfl r0 (mk_ix (by omega) (by omega)) (congrArg xs (mk_cl (by omega))) ?_
    refine go_i2l rfl rfl ?_
    refine go_ldc2 (v := 4294967295) rfl (by decide) ?_
    refine go_l2 (f := fun x y => x &&& y) (v := ((Int32.toInt64 (xs (i + 2))) &&& (4294967295 : Int64))) rfl rfl (fun _ => rfl) rfl ?_
    refine go_l2 (f := fun x y => x ||| y) (v := (lz_V xs i)) rfl rfl (fun _ => rfl) rfl ?_
    obtain ⟨ws1, rw1⟩ := lz_r1 hh
    refine go_c (M' := ab_M_X9_feed) (A := [.ref 1, .long (lz_V xs i)]) (rest := []) (lv0 := [(0, .ref 1), (1, .long (lz_V xs i))]) rfl rfl (ab_cal_v (As := [.long (lz_V xs i)]) rfl rfl rfl rw1 rfl rfl rfl rfl) rfl (k1 i h hi hh hm R) (fun r h1 hp => ?_)
    obtain ⟨v1, rfl, hh1, J⟩ := hp
    show ab_go (d + 1) ab_M_L_law 192 lv [.int v1] h1 Q
    have r01 := lz_r0 hh1
    refine go_s (pc' := 193) (lv' := lv) (st' := []) (h' := h1) rfl rfl rfl ?_
    refine go_s (pc' := 194) (lv' := lv) (st' := [.ref 82]) (h' := h1) rfl rfl (ig_ald f2) ?_
    refine go_s (pc' := 195) (lv' := lv) (st' := [.ref 0, .ref 82]) (h' := h1) rfl rfl (ig_ald f0) ?_
    refine go_s (pc' := 196) (lv' := lv) (st' := [.int (Int32.ofNat i), .ref 0, .ref 82]) (h' := h1) rfl rfl (po_ild (nL := 0) f3) ?_
    refine go_s (pc' := 197) (lv' := lv) (st' := [.int (Int32.ofNat 1), .int (Int32.ofNat i), .ref 0, .ref 82]) (h' := h1) rfl rfl rfl ?_
    refine go_b2 (f := fun x y => x + y) (v := Int32.ofNat (i + 1)) rfl rfl (fun _ => rfl) (lz_add 1 (by omega)) ?_
    refine go_ial (v := xs (i + 1)) rfl r01 (mk_ix (by omega) (by omega)) (congrArg xs (mk_cl (by omega))) ?_
    refine go_i2l rfl rfl ?_
    refine go_bipush (v := 32) rfl (by decide) ?_
    refine go_ls (f := fun x y => x <<< (y.toInt64 &&& 63)) (v := ((Int32.toInt64 (xs (i + 1))) <<< (Int32.toInt64 32 &&& 63))) rfl rfl (fun _ => rfl) rfl ?_
    refine go_s (pc' := 204) (lv' := lv) (st' := [.ref 0, .long ((Int32.toInt64 (xs (i + 1))) <<< (Int32.toInt64 32 &&& 63)), .ref 82]) (h' := h1) rfl rfl (ig_ald f0) ?_
    refine go_s (pc' := 205) (lv' := lv) (st' := [.int (Int32.ofNat i), .ref 0, .long ((Int32.toInt64 (xs (i + 1))) <<< (Int32.toInt64 32 &&& 63)), .ref 82]) (h' := h1) rfl rfl (po_ild (nL := 0) f3) ?_
    refine go_s (pc' := 206) (lv' := lv) (st' := [.int (Int32.ofNat 2), .int (Int32.ofNat i), .ref 0, .long ((Int32.toInt64 (xs (i + 1))) <<< (Int32.toInt64 32 &&& 63)), .ref 82]) (h' := h1) rfl rfl rfl ?_
    refine go_b2 (f := fun x y => x + y) (v := Int32.ofNat (i + 2)) rfl rfl (fun _ => rfl) (lz_add 2 (by omega)) ?_
    refine go_ial (v := xs (i + 2)) rfl r01 (mk_ix (by omega) (by omega)) (congrArg xs (mk_cl (by omega))) ?_
    refine go_i2l rfl rfl ?_
    refine go_ldc2 (v := 4294967295) rfl (by decide) ?_
    refine go_l2 (f := fun x y => x &&& y) (v := ((Int32.toInt64 (xs (i + 2))) &&& (4294967295 : Int64))) rfl rfl (fun _ => rfl) rfl ?_
    refine go_l2 (f := fun x y => x ||| y) (v := (lz_V xs i)) rfl rfl (fun _ => rfl) rfl ?_
    obtain ⟨ws2, rw2⟩ := lz_r82 hh1
    refine go_c (M' := ab_M_X10_feed) (A := [.ref 82, .long (lz_V xs i)]) (rest := []) (lv0 := [(0, .ref 82), (1, .long (lz_V xs i))]) rfl rfl (ab_cal_v (As := [.long (lz_V xs i)]) rfl rfl rfl rw2 rfl rfl rfl rfl) rfl (k2 i v1 h1 hi hh1 J) (fun r h2 hp => ?_)
    obtain ⟨v2, rfl, hh2, a', b', hmd, hm2, R2, hv⟩ := hp
    show ab_go (d + 1) ab_M_L_law 217 lv [.int v2] h2 Q
    refine go_s (pc' := 218) (lv' := lv) (st' := []) (h' := h2) rfl rfl rfl ?_
    refine go_goto (off := 820) (tgt := 1038) rfl rfl ?_
    refine go_s (pc' := 1041) (lv' := ab_s1 3 (.int (Int32.ofNat i + Int32.ofInt 6)) lv) (st' := []) (h' := h2) rfl rfl (px_inc (by decide) f3) ?_
    have e6 : Int32.ofNat i + Int32.ofInt 6 = Int32.ofNat (i + 6) := lz_add 6 (by omega)
    rw [e6]
    have f0 := po_s1_other (v := .int (Int32.ofNat (i + 6))) (i := 3) f0 (by decide) (fun q => absurd q.2 (show ¬ (1 : Nat) = 2 by decide))
    have f1 := po_s1_other (v := .int (Int32.ofNat (i + 6))) (i := 3) f1 (by decide) (fun q => absurd q.2 (show ¬ (1 : Nat) = 2 by decide))
    have f2 := po_s1_other (v := .int (Int32.ofNat (i + 6))) (i := 3) f2 (by decide) (fun q => absurd q.2 (show ¬ (1 : Nat) = 2 by decide))
    have f3 : ab_lk (ab_s1 3 (.int (Int32.ofNat (i + 6))) lv) 3 = some (.int (Int32.ofNat (i + 6))) := mk_s1s
    refine go_goto (off := -1023) (tgt := 18) rfl rfl ?_
    exact IH a' b' β _ h2 hmd (lz_hd hL (lz_b1 hL g) hb hi f0 f1 f2 f3 hh2 hm2) sx_ag.rf R2
theorem lz_1 (hL : L ≤ 3072) {a b : Nat} (J : Nat → Int32 → ab_H → Prop) (k1 : ∀ (i : Nat) (h : ab_H), i + 6 ≤ L → sx_h sx_SP z L xs h → gm a b h → R h → ab_go d ab_M_X9_end 0 [(0, .ref 1), (1, .int (xs (i + 1)))] [] h (fun r h1 => ∃ v1, r = some (.int v1) ∧ sx_h sx_SP z L xs h1 ∧ J i v1 h1)) (k2 : ∀ (i : Nat) (v1 : Int32) (h1 : ab_H), i + 6 ≤ L → sx_h sx_SP z L xs h1 → J i v1 h1 → ab_go d ab_M_X10_end 0 [(0, .ref 82), (1, .int (xs (i + 1)))] [] h1 (fun r h2 => ∃ v2, r = some (.int v2) ∧ sx_h sx_SP z L xs h2 ∧ ∃ a' b', cs_md a' b' ∧ gm a' b' h2 ∧ R h2 ∧ True)) : cs_step z L (d + 1) xs Q R 221 a b := fun β lv h g R IH => by
    have hh := g.2.2.2.2.2.2
    obtain ⟨i, hb, hi, f0, f1, f2, f3, r0, hm⟩ := lz_at hL g
    refine go_s (pc' := 222) (lv' := lv) (st' := [.ref 1]) (h' := h) rfl rfl (ig_ald f1) ?_
    refine go_s (pc' := 223) (lv' := lv) (st' := [.ref 0, .ref 1]) (h' := h) rfl rfl (ig_ald f0) ?_
    refine go_s (pc' := 224) (lv' := lv) (st' := [.int (Int32.ofNat i), .ref 0, .ref 1]) (h' := h) rfl rfl (po_ild (nL := 0) f3) ?_
    refine go_s (pc' := 225) (lv' := lv) (st' := [.int (Int32.ofNat 1), .int (Int32.ofNat i), .ref 0, .ref 1]) (h' := h) rfl rfl rfl ?_
    refine go_b2 (f := fun x y => x + y) (v := Int32.ofNat (i + 1)) rfl rfl (fun _ => rfl) (lz_add 1 (by omega)) ?_
    refine go_ial (v := xs (i + 1)) rfl r0 (mk_ix (by omega) (by omega)) (congrArg xs (mk_cl (by omega))) ?_
    obtain ⟨ws1, rw1⟩ := lz_r1 hh
    refine go_c (M' := ab_M_X9_end) (A := [.ref 1, .int (xs (i + 1))]) (rest := []) (lv0 := [(0, .ref 1), (1, .int (xs (i + 1)))]) rfl rfl (ab_cal_v (As := [.int (xs (i + 1))]) rfl rfl rfl rw1 rfl rfl rfl rfl) rfl (k1 i h hi hh hm R) (fun r h1 hp => ?_)
    obtain ⟨v1, rfl, hh1, J⟩ := hp
    show ab_go (d + 1) ab_M_L_law 230 lv [.int v1] h1 Q
    have r01 := lz_r0 hh1
    refine go_s (pc' := 231) (lv' := lv) (st' := []) (h' := h1) rfl rfl rfl ?_
    refine go_s (pc' := 232) (lv' := lv) (st' := [.ref 82]) (h' := h1) rfl rfl (ig_ald f2) ?_
    refine go_s (pc' := 233) (lv' := lv) (st' := [.ref 0, .ref 82]) (h' := h1) rfl rfl (ig_ald f0) ?_
    refine go_s (pc' := 234) (lv' := lv) (st' := [.int (Int32.ofNat i), .ref 0, .ref 82]) (h' := h1) rfl rfl (po_ild (nL := 0) f3) ?_
    refine go_s (pc' := 235) (lv' := lv) (st' := [.int (Int32.ofNat 1), .int (Int32.ofNat i), .ref 0, .ref 82]) (h' := h1) rfl rfl rfl ?_
    refine go_b2 (f := fun x y => x + y) (v := Int32.ofNat (i + 1)) rfl rfl (fun _ => rfl) (lz_add 1 (by omega)) ?_
    refine go_ial (v := xs (i + 1)) rfl r01 (mk_ix (by omega) (by omega)) (congrArg xs (mk_cl (by omega))) ?_
    obtain ⟨ws2, rw2⟩ := lz_r82 hh1
    refine go_c (M' := ab_M_X10_end) (A := [.ref 82, .int (xs (i + 1))]) (rest := []) (lv0 := [(0, .ref 82), (1, .int (xs (i + 1)))]) rfl rfl (ab_cal_v (As := [.int (xs (i + 1))]) rfl rfl rfl rw2 rfl rfl rfl rfl) rfl (k2 i v1 h1 hi hh1 J) (fun r h2 hp => ?_)
    obtain ⟨v2, rfl, hh2, a', b', hmd, hm2, R2, hv⟩ := hp
    show ab_go (d + 1) ab_M_L_law 240 lv [.int v2] h2 Q
    refine go_s (pc' := 241) (lv' := lv) (st' := []) (h' := h2) rfl rfl rfl ?_
    refine go_goto (off := 797) (tgt := 1038) rfl rfl ?_
    refine go_s (pc' := 1041) (lv' := ab_s1 3 (.int (Int32.ofNat i + Int32.ofInt 6)) lv) (st' := []) (h' := h2) rfl rfl (px_inc (by decide) f3) ?_
    have e6 : Int32.ofNat i + Int32.ofInt 6 = Int32.ofNat (i + 6) := lz_add 6 (by omega)
    rw [e6]
    have f0 := po_s1_other (v := .int (Int32.ofNat (i + 6))) (i := 3) f0 (by decide) (fun q => absurd q.2 (show ¬ (1 : Nat) = 2 by decide))
    have f1 := po_s1_other (v := .int (Int32.ofNat (i + 6))) (i := 3) f1 (by decide) (fun q => absurd q.2 (show ¬ (1 : Nat) = 2 by decide))
    have f2 := po_s1_other (v := .int (Int32.ofNat (i + 6))) (i := 3) f2 (by decide) (fun q => absurd q.2 (show ¬ (1 : Nat) = 2 by decide))
    have f3 : ab_lk (ab_s1 3 (.int (Int32.ofNat (i + 6))) lv) 3 = some (.int (Int32.ofNat (i + 6))) := mk_s1s
    refine go_goto (off := -1023) (tgt := 18) rfl rfl ?_
    exact IH a' b' β _ h2 hmd (lz_hd hL (lz_b1 hL g) hb hi f0 f1 f2 f3 hh2 hm2) sx_ag.rf R2
theorem lz_2 (hL : L ≤ 3072) {a b : Nat} (J : Nat → Int32 → ab_H → Prop) (k1 : ∀ (i : Nat) (h : ab_H), i + 6 ≤ L → sx_h sx_SP z L xs h → gm a b h → R h → ab_go d ab_M_X9_text 0 [(0, .ref 1)] [] h (fun r h1 => ∃ v1, r = some (.int v1) ∧ sx_h sx_SP z L xs h1 ∧ J i v1 h1)) (k2 : ∀ (i : Nat) (v1 : Int32) (h1 : ab_H), i + 6 ≤ L → sx_h sx_SP z L xs h1 → J i v1 h1 → ab_go d ab_M_X10_text 0 [(0, .ref 82)] [] h1 (fun r h2 => ∃ v2, r = some (.int v2) ∧ sx_h sx_SP z L xs h2 ∧ ∃ a' b', cs_md a' b' ∧ gm a' b' h2 ∧ R h2 ∧ True)) : cs_step z L (d + 1) xs Q R 244 a b := fun β lv h g R IH => by
    have hh := g.2.2.2.2.2.2
    obtain ⟨i, hb, hi, f0, f1, f2, f3, r0, hm⟩ := lz_at hL g
    refine go_s (pc' := 245) (lv' := lv) (st' := [.ref 1]) (h' := h) rfl rfl (ig_ald f1) ?_
    obtain ⟨ws1, rw1⟩ := lz_r1 hh
    refine go_c (M' := ab_M_X9_text) (A := [.ref 1]) (rest := []) (lv0 := [(0, .ref 1)]) rfl rfl (ab_cal_v (As := []) rfl rfl rfl rw1 rfl rfl rfl rfl) rfl (k1 i h hi hh hm R) (fun r h1 hp => ?_)
    obtain ⟨v1, rfl, hh1, J⟩ := hp
    show ab_go (d + 1) ab_M_L_law 248 lv [.int v1] h1 Q
    have r01 := lz_r0 hh1
    refine go_s (pc' := 249) (lv' := lv) (st' := []) (h' := h1) rfl rfl rfl ?_
    refine go_s (pc' := 250) (lv' := lv) (st' := [.ref 82]) (h' := h1) rfl rfl (ig_ald f2) ?_
    obtain ⟨ws2, rw2⟩ := lz_r82 hh1
    refine go_c (M' := ab_M_X10_text) (A := [.ref 82]) (rest := []) (lv0 := [(0, .ref 82)]) rfl rfl (ab_cal_v (As := []) rfl rfl rfl rw2 rfl rfl rfl rfl) rfl (k2 i v1 h1 hi hh1 J) (fun r h2 hp => ?_)
    obtain ⟨v2, rfl, hh2, a', b', hmd, hm2, R2, hv⟩ := hp
    show ab_go (d + 1) ab_M_L_law 253 lv [.int v2] h2 Q
    refine go_s (pc' := 254) (lv' := lv) (st' := []) (h' := h2) rfl rfl rfl ?_
    refine go_goto (off := 784) (tgt := 1038) rfl rfl ?_
    refine go_s (pc' := 1041) (lv' := ab_s1 3 (.int (Int32.ofNat i + Int32.ofInt 6)) lv) (st' := []) (h' := h2) rfl rfl (px_inc (by decide) f3) ?_
    have e6 : Int32.ofNat i + Int32.ofInt 6 = Int32.ofNat (i + 6) := lz_add 6 (by omega)
    rw [e6]
    have f0 := po_s1_other (v := .int (Int32.ofNat (i + 6))) (i := 3) f0 (by decide) (fun q => absurd q.2 (show ¬ (1 : Nat) = 2 by decide))
    have f1 := po_s1_other (v := .int (Int32.ofNat (i + 6))) (i := 3) f1 (by decide) (fun q => absurd q.2 (show ¬ (1 : Nat) = 2 by decide))
    have f2 := po_s1_other (v := .int (Int32.ofNat (i + 6))) (i := 3) f2 (by decide) (fun q => absurd q.2 (show ¬ (1 : Nat) = 2 by decide))
    have f3 : ab_lk (ab_s1 3 (.int (Int32.ofNat (i + 6))) lv) 3 = some (.int (Int32.ofNat (i + 6))) := mk_s1s
    refine go_goto (off := -1023) (tgt := 18) rfl rfl ?_
    exact IH a' b' β _ h2 hmd (lz_hd hL (lz_b1 hL g) hb hi f0 f1 f2 f3 hh2 hm2) sx_ag.rf R2
theorem lz_7 (hL : L ≤ 3072) {a b : Nat} (J : Nat → Int32 → ab_H → Prop) (k1 : ∀ (i : Nat) (h : ab_H), i + 6 ≤ L → sx_h sx_SP z L xs h → gm a b h → R h → ab_go d ab_M_X9_states 0 [(0, .ref 1)] [] h (fun r h1 => ∃ v1, r = some (.int v1) ∧ sx_h sx_SP z L xs h1 ∧ J i v1 h1)) (k2 : ∀ (i : Nat) (v1 : Int32) (h1 : ab_H), i + 6 ≤ L → sx_h sx_SP z L xs h1 → J i v1 h1 → ab_go d ab_M_X10_states 0 [(0, .ref 82)] [] h1 (fun r h2 => ∃ v2, r = some (.int v2) ∧ sx_h sx_SP z L xs h2 ∧ ∃ a' b', cs_md a' b' ∧ gm a' b' h2 ∧ R h2 ∧ True)) : cs_step z L (d + 1) xs Q R 369 a b := fun β lv h g R IH => by
    have hh := g.2.2.2.2.2.2
    obtain ⟨i, hb, hi, f0, f1, f2, f3, r0, hm⟩ := lz_at hL g
    refine go_s (pc' := 370) (lv' := lv) (st' := [.ref 1]) (h' := h) rfl rfl (ig_ald f1) ?_
    obtain ⟨ws1, rw1⟩ := lz_r1 hh
    refine go_c (M' := ab_M_X9_states) (A := [.ref 1]) (rest := []) (lv0 := [(0, .ref 1)]) rfl rfl (ab_cal_v (As := []) rfl rfl rfl rw1 rfl rfl rfl rfl) rfl (k1 i h hi hh hm R) (fun r h1 hp => ?_)
    obtain ⟨v1, rfl, hh1, J⟩ := hp
    show ab_go (d + 1) ab_M_L_law 373 lv [.int v1] h1 Q
    have r01 := lz_r0 hh1
    refine go_s (pc' := 374) (lv' := lv) (st' := []) (h' := h1) rfl rfl rfl ?_
    refine go_s (pc' := 375) (lv' := lv) (st' := [.ref 82]) (h' := h1) rfl rfl (ig_ald f2) ?_
    obtain ⟨ws2, rw2⟩ := lz_r82 hh1
    refine go_c (M' := ab_M_X10_states) (A := [.ref 82]) (rest := []) (lv0 := [(0, .ref 82)]) rfl rfl (ab_cal_v (As := []) rfl rfl rfl rw2 rfl rfl rfl rfl) rfl (k2 i v1 h1 hi hh1 J) (fun r h2 hp => ?_)
    obtain ⟨v2, rfl, hh2, a', b', hmd, hm2, R2, hv⟩ := hp
    show ab_go (d + 1) ab_M_L_law 378 lv [.int v2] h2 Q
    refine go_s (pc' := 379) (lv' := lv) (st' := []) (h' := h2) rfl rfl rfl ?_
    refine go_goto (off := 659) (tgt := 1038) rfl rfl ?_
    refine go_s (pc' := 1041) (lv' := ab_s1 3 (.int (Int32.ofNat i + Int32.ofInt 6)) lv) (st' := []) (h' := h2) rfl rfl (px_inc (by decide) f3) ?_
    have e6 : Int32.ofNat i + Int32.ofInt 6 = Int32.ofNat (i + 6) := lz_add 6 (by omega)
    rw [e6]
    have f0 := po_s1_other (v := .int (Int32.ofNat (i + 6))) (i := 3) f0 (by decide) (fun q => absurd q.2 (show ¬ (1 : Nat) = 2 by decide))
    have f1 := po_s1_other (v := .int (Int32.ofNat (i + 6))) (i := 3) f1 (by decide) (fun q => absurd q.2 (show ¬ (1 : Nat) = 2 by decide))
    have f2 := po_s1_other (v := .int (Int32.ofNat (i + 6))) (i := 3) f2 (by decide) (fun q => absurd q.2 (show ¬ (1 : Nat) = 2 by decide))
    have f3 : ab_lk (ab_s1 3 (.int (Int32.ofNat (i + 6))) lv) 3 = some (.int (Int32.ofNat (i + 6))) := mk_s1s
    refine go_goto (off := -1023) (tgt := 18) rfl rfl ?_
    exact IH a' b' β _ h2 hmd (lz_hd hL (lz_b1 hL g) hb hi f0 f1 f2 f3 hh2 hm2) sx_ag.rf R2
theorem lz_8 (hL : L ≤ 3072) {a b : Nat} (J : Nat → Int32 → ab_H → Prop) (k1 : ∀ (i : Nat) (h : ab_H), i + 6 ≤ L → sx_h sx_SP z L xs h → gm a b h → R h → ab_go d ab_M_X9_right 0 [(0, .ref 1)] [] h (fun r h1 => ∃ v1, r = some (.int v1) ∧ sx_h sx_SP z L xs h1 ∧ J i v1 h1)) (k2 : ∀ (i : Nat) (v1 : Int32) (h1 : ab_H), i + 6 ≤ L → sx_h sx_SP z L xs h1 → J i v1 h1 → ab_go d ab_M_X10_right 0 [(0, .ref 82)] [] h1 (fun r h2 => ∃ v2, r = some (.int v2) ∧ sx_h sx_SP z L xs h2 ∧ ∃ a' b', cs_md a' b' ∧ gm a' b' h2 ∧ R h2 ∧ True)) : cs_step z L (d + 1) xs Q R 382 a b := fun β lv h g R IH => by
    have hh := g.2.2.2.2.2.2
    obtain ⟨i, hb, hi, f0, f1, f2, f3, r0, hm⟩ := lz_at hL g
    refine go_s (pc' := 383) (lv' := lv) (st' := [.ref 1]) (h' := h) rfl rfl (ig_ald f1) ?_
    obtain ⟨ws1, rw1⟩ := lz_r1 hh
    refine go_c (M' := ab_M_X9_right) (A := [.ref 1]) (rest := []) (lv0 := [(0, .ref 1)]) rfl rfl (ab_cal_v (As := []) rfl rfl rfl rw1 rfl rfl rfl rfl) rfl (k1 i h hi hh hm R) (fun r h1 hp => ?_)
    obtain ⟨v1, rfl, hh1, J⟩ := hp
    show ab_go (d + 1) ab_M_L_law 386 lv [.int v1] h1 Q
    have r01 := lz_r0 hh1
    refine go_s (pc' := 387) (lv' := lv) (st' := []) (h' := h1) rfl rfl rfl ?_
    refine go_s (pc' := 388) (lv' := lv) (st' := [.ref 82]) (h' := h1) rfl rfl (ig_ald f2) ?_
    obtain ⟨ws2, rw2⟩ := lz_r82 hh1
    refine go_c (M' := ab_M_X10_right) (A := [.ref 82]) (rest := []) (lv0 := [(0, .ref 82)]) rfl rfl (ab_cal_v (As := []) rfl rfl rfl rw2 rfl rfl rfl rfl) rfl (k2 i v1 h1 hi hh1 J) (fun r h2 hp => ?_)
    obtain ⟨v2, rfl, hh2, a', b', hmd, hm2, R2, hv⟩ := hp
    show ab_go (d + 1) ab_M_L_law 391 lv [.int v2] h2 Q
    refine go_s (pc' := 392) (lv' := lv) (st' := []) (h' := h2) rfl rfl rfl ?_
    refine go_goto (off := 646) (tgt := 1038) rfl rfl ?_
    refine go_s (pc' := 1041) (lv' := ab_s1 3 (.int (Int32.ofNat i + Int32.ofInt 6)) lv) (st' := []) (h' := h2) rfl rfl (px_inc (by decide) f3) ?_
    have e6 : Int32.ofNat i + Int32.ofInt 6 = Int32.ofNat (i + 6) := lz_add 6 (by omega)
    rw [e6]
    have f0 := po_s1_other (v := .int (Int32.ofNat (i + 6))) (i := 3) f0 (by decide) (fun q => absurd q.2 (show ¬ (1 : Nat) = 2 by decide))
    have f1 := po_s1_other (v := .int (Int32.ofNat (i + 6))) (i := 3) f1 (by decide) (fun q => absurd q.2 (show ¬ (1 : Nat) = 2 by decide))
    have f2 := po_s1_other (v := .int (Int32.ofNat (i + 6))) (i := 3) f2 (by decide) (fun q => absurd q.2 (show ¬ (1 : Nat) = 2 by decide))
    have f3 : ab_lk (ab_s1 3 (.int (Int32.ofNat (i + 6))) lv) 3 = some (.int (Int32.ofNat (i + 6))) := mk_s1s
    refine go_goto (off := -1023) (tgt := 18) rfl rfl ?_
    exact IH a' b' β _ h2 hmd (lz_hd hL (lz_b1 hL g) hb hi f0 f1 f2 f3 hh2 hm2) sx_ag.rf R2
theorem lz_9 (hL : L ≤ 3072) {a b : Nat} (J : Nat → Int32 → ab_H → Prop) (k1 : ∀ (i : Nat) (h : ab_H), i + 6 ≤ L → sx_h sx_SP z L xs h → gm a b h → R h → ab_go d ab_M_X9_of 0 [(0, .ref 1), (1, .int (xs (i + 1))), (2, .int (xs (i + 2)))] [] h (fun r h1 => ∃ v1, r = some (.int v1) ∧ sx_h sx_SP z L xs h1 ∧ J i v1 h1)) (k2 : ∀ (i : Nat) (v1 : Int32) (h1 : ab_H), i + 6 ≤ L → sx_h sx_SP z L xs h1 → J i v1 h1 → ab_go d ab_M_X10_of 0 [(0, .ref 82), (1, .int (xs (i + 1))), (2, .int (xs (i + 2)))] [] h1 (fun r h2 => ∃ v2, r = some (.int v2) ∧ sx_h sx_SP z L xs h2 ∧ ∃ a' b', cs_md a' b' ∧ gm a' b' h2 ∧ R h2 ∧ True)) : cs_step z L (d + 1) xs Q R 395 a b := fun β lv h g R IH => by
    have hh := g.2.2.2.2.2.2
    obtain ⟨i, hb, hi, f0, f1, f2, f3, r0, hm⟩ := lz_at hL g
    refine go_s (pc' := 396) (lv' := lv) (st' := [.ref 1]) (h' := h) rfl rfl (ig_ald f1) ?_
    refine go_s (pc' := 397) (lv' := lv) (st' := [.ref 0, .ref 1]) (h' := h) rfl rfl (ig_ald f0) ?_
    refine go_s (pc' := 398) (lv' := lv) (st' := [.int (Int32.ofNat i), .ref 0, .ref 1]) (h' := h) rfl rfl (po_ild (nL := 0) f3) ?_
    refine go_s (pc' := 399) (lv' := lv) (st' := [.int (Int32.ofNat 1), .int (Int32.ofNat i), .ref 0, .ref 1]) (h' := h) rfl rfl rfl ?_
    refine go_b2 (f := fun x y => x + y) (v := Int32.ofNat (i + 1)) rfl rfl (fun _ => rfl) (lz_add 1 (by omega)) ?_
    refine go_ial (v := xs (i + 1)) rfl r0 (mk_ix (by omega) (by omega)) (congrArg xs (mk_cl (by omega))) ?_
    refine go_s (pc' := 402) (lv' := lv) (st' := [.ref 0, .int (xs (i + 1)), .ref 1]) (h' := h) rfl rfl (ig_ald f0) ?_
    refine go_s (pc' := 403) (lv' := lv) (st' := [.int (Int32.ofNat i), .ref 0, .int (xs (i + 1)), .ref 1]) (h' := h) rfl rfl (po_ild (nL := 0) f3) ?_
    refine go_s (pc' := 404) (lv' := lv) (st' := [.int (Int32.ofNat 2), .int (Int32.ofNat i), .ref 0, .int (xs (i + 1)), .ref 1]) (h' := h) rfl rfl rfl ?_
    refine go_b2 (f := fun x y => x + y) (v := Int32.ofNat (i + 2)) rfl rfl (fun _ => rfl) (lz_add 2 (by omega)) ?_
    refine go_ial (v := xs (i + 2)) rfl r0 (mk_ix (by omega) (by omega)) (congrArg xs (mk_cl (by omega))) ?_
    obtain ⟨ws1, rw1⟩ := lz_r1 hh
    refine go_c (M' := ab_M_X9_of) (A := [.ref 1, .int (xs (i + 1)), .int (xs (i + 2))]) (rest := []) (lv0 := [(0, .ref 1), (1, .int (xs (i + 1))), (2, .int (xs (i + 2)))]) rfl rfl (ab_cal_v (As := [.int (xs (i + 1)), .int (xs (i + 2))]) rfl rfl rfl rw1 rfl rfl rfl rfl) rfl (k1 i h hi hh hm R) (fun r h1 hp => ?_)
    obtain ⟨v1, rfl, hh1, J⟩ := hp
    show ab_go (d + 1) ab_M_L_law 409 lv [.int v1] h1 Q
    have r01 := lz_r0 hh1
    refine go_s (pc' := 410) (lv' := lv) (st' := []) (h' := h1) rfl rfl rfl ?_
    refine go_s (pc' := 411) (lv' := lv) (st' := [.ref 82]) (h' := h1) rfl rfl (ig_ald f2) ?_
    refine go_s (pc' := 412) (lv' := lv) (st' := [.ref 0, .ref 82]) (h' := h1) rfl rfl (ig_ald f0) ?_
    refine go_s (pc' := 413) (lv' := lv) (st' := [.int (Int32.ofNat i), .ref 0, .ref 82]) (h' := h1) rfl rfl (po_ild (nL := 0) f3) ?_
    refine go_s (pc' := 414) (lv' := lv) (st' := [.int (Int32.ofNat 1), .int (Int32.ofNat i), .ref 0, .ref 82]) (h' := h1) rfl rfl rfl ?_
    refine go_b2 (f := fun x y => x + y) (v := Int32.ofNat (i + 1)) rfl rfl (fun _ => rfl) (lz_add 1 (by omega)) ?_
    refine go_ial (v := xs (i + 1)) rfl r01 (mk_ix (by omega) (by omega)) (congrArg xs (mk_cl (by omega))) ?_
    refine go_s (pc' := 417) (lv' := lv) (st' := [.ref 0, .int (xs (i + 1)), .ref 82]) (h' := h1) rfl rfl (ig_ald f0) ?_
    refine go_s (pc' := 418) (lv' := lv) (st' := [.int (Int32.ofNat i), .ref 0, .int (xs (i + 1)), .ref 82]) (h' := h1) rfl rfl (po_ild (nL := 0) f3) ?_
    refine go_s (pc' := 419) (lv' := lv) (st' := [.int (Int32.ofNat 2), .int (Int32.ofNat i), .ref 0, .int (xs (i + 1)), .ref 82]) (h' := h1) rfl rfl rfl ?_
    refine go_b2 (f := fun x y => x + y) (v := Int32.ofNat (i + 2)) rfl rfl (fun _ => rfl) (lz_add 2 (by omega)) ?_
    refine go_ial (v := xs (i + 2)) rfl r01 (mk_ix (by omega) (by omega)) (congrArg xs (mk_cl (by omega))) ?_
    obtain ⟨ws2, rw2⟩ := lz_r82 hh1
    refine go_c (M' := ab_M_X10_of) (A := [.ref 82, .int (xs (i + 1)), .int (xs (i + 2))]) (rest := []) (lv0 := [(0, .ref 82), (1, .int (xs (i + 1))), (2, .int (xs (i + 2)))]) rfl rfl (ab_cal_v (As := [.int (xs (i + 1)), .int (xs (i + 2))]) rfl rfl rfl rw2 rfl rfl rfl rfl) rfl (k2 i v1 h1 hi hh1 J) (fun r h2 hp => ?_)
    obtain ⟨v2, rfl, hh2, a', b', hmd, hm2, R2, hv⟩ := hp
    show ab_go (d + 1) ab_M_L_law 424 lv [.int v2] h2 Q
    refine go_s (pc' := 425) (lv' := lv) (st' := []) (h' := h2) rfl rfl rfl ?_
    refine go_goto (off := 613) (tgt := 1038) rfl rfl ?_
    refine go_s (pc' := 1041) (lv' := ab_s1 3 (.int (Int32.ofNat i + Int32.ofInt 6)) lv) (st' := []) (h' := h2) rfl rfl (px_inc (by decide) f3) ?_
    have e6 : Int32.ofNat i + Int32.ofInt 6 = Int32.ofNat (i + 6) := lz_add 6 (by omega)
    rw [e6]
    have f0 := po_s1_other (v := .int (Int32.ofNat (i + 6))) (i := 3) f0 (by decide) (fun q => absurd q.2 (show ¬ (1 : Nat) = 2 by decide))
    have f1 := po_s1_other (v := .int (Int32.ofNat (i + 6))) (i := 3) f1 (by decide) (fun q => absurd q.2 (show ¬ (1 : Nat) = 2 by decide))
    have f2 := po_s1_other (v := .int (Int32.ofNat (i + 6))) (i := 3) f2 (by decide) (fun q => absurd q.2 (show ¬ (1 : Nat) = 2 by decide))
    have f3 : ab_lk (ab_s1 3 (.int (Int32.ofNat (i + 6))) lv) 3 = some (.int (Int32.ofNat (i + 6))) := mk_s1s
    refine go_goto (off := -1023) (tgt := 18) rfl rfl ?_
    exact IH a' b' β _ h2 hmd (lz_hd hL (lz_b1 hL g) hb hi f0 f1 f2 f3 hh2 hm2) sx_ag.rf R2
theorem lz_10 (hL : L ≤ 3072) {a b : Nat} (J : Nat → Int32 → ab_H → Prop) (k1 : ∀ (i : Nat) (h : ab_H), i + 6 ≤ L → sx_h sx_SP z L xs h → gm a b h → R h → ab_go d ab_M_X9_quarrels 0 [(0, .ref 1), (1, .int (xs (i + 1)))] [] h (fun r h1 => ∃ v1, r = some (.int v1) ∧ sx_h sx_SP z L xs h1 ∧ J i v1 h1)) (k2 : ∀ (i : Nat) (v1 : Int32) (h1 : ab_H), i + 6 ≤ L → sx_h sx_SP z L xs h1 → J i v1 h1 → ab_go d ab_M_X10_quarrels 0 [(0, .ref 82), (1, .int (xs (i + 1)))] [] h1 (fun r h2 => ∃ v2, r = some (.int v2) ∧ sx_h sx_SP z L xs h2 ∧ ∃ a' b', cs_md a' b' ∧ gm a' b' h2 ∧ R h2 ∧ True)) : cs_step z L (d + 1) xs Q R 428 a b := fun β lv h g R IH => by
    have hh := g.2.2.2.2.2.2
    obtain ⟨i, hb, hi, f0, f1, f2, f3, r0, hm⟩ := lz_at hL g
    refine go_s (pc' := 429) (lv' := lv) (st' := [.ref 1]) (h' := h) rfl rfl (ig_ald f1) ?_
    refine go_s (pc' := 430) (lv' := lv) (st' := [.ref 0, .ref 1]) (h' := h) rfl rfl (ig_ald f0) ?_
    refine go_s (pc' := 431) (lv' := lv) (st' := [.int (Int32.ofNat i), .ref 0, .ref 1]) (h' := h) rfl rfl (po_ild (nL := 0) f3) ?_
    refine go_s (pc' := 432) (lv' := lv) (st' := [.int (Int32.ofNat 1), .int (Int32.ofNat i), .ref 0, .ref 1]) (h' := h) rfl rfl rfl ?_
    refine go_b2 (f := fun x y => x + y) (v := Int32.ofNat (i + 1)) rfl rfl (fun _ => rfl) (lz_add 1 (by omega)) ?_
    refine go_ial (v := xs (i + 1)) rfl r0 (mk_ix (by omega) (by omega)) (congrArg xs (mk_cl (by omega))) ?_
    obtain ⟨ws1, rw1⟩ := lz_r1 hh
    refine go_c (M' := ab_M_X9_quarrels) (A := [.ref 1, .int (xs (i + 1))]) (rest := []) (lv0 := [(0, .ref 1), (1, .int (xs (i + 1)))]) rfl rfl (ab_cal_v (As := [.int (xs (i + 1))]) rfl rfl rfl rw1 rfl rfl rfl rfl) rfl (k1 i h hi hh hm R) (fun r h1 hp => ?_)
    obtain ⟨v1, rfl, hh1, J⟩ := hp
    show ab_go (d + 1) ab_M_L_law 437 lv [.int v1] h1 Q
    have r01 := lz_r0 hh1
    refine go_s (pc' := 438) (lv' := lv) (st' := []) (h' := h1) rfl rfl rfl ?_
    refine go_s (pc' := 439) (lv' := lv) (st' := [.ref 82]) (h' := h1) rfl rfl (ig_ald f2) ?_
    refine go_s (pc' := 440) (lv' := lv) (st' := [.ref 0, .ref 82]) (h' := h1) rfl rfl (ig_ald f0) ?_
    refine go_s (pc' := 441) (lv' := lv) (st' := [.int (Int32.ofNat i), .ref 0, .ref 82]) (h' := h1) rfl rfl (po_ild (nL := 0) f3) ?_
    refine go_s (pc' := 442) (lv' := lv) (st' := [.int (Int32.ofNat 1), .int (Int32.ofNat i), .ref 0, .ref 82]) (h' := h1) rfl rfl rfl ?_
    refine go_b2 (f := fun x y => x + y) (v := Int32.ofNat (i + 1)) rfl rfl (fun _ => rfl) (lz_add 1 (by omega)) ?_
    refine go_ial (v := xs (i + 1)) rfl r01 (mk_ix (by omega) (by omega)) (congrArg xs (mk_cl (by omega))) ?_
    obtain ⟨ws2, rw2⟩ := lz_r82 hh1
    refine go_c (M' := ab_M_X10_quarrels) (A := [.ref 82, .int (xs (i + 1))]) (rest := []) (lv0 := [(0, .ref 82), (1, .int (xs (i + 1)))]) rfl rfl (ab_cal_v (As := [.int (xs (i + 1))]) rfl rfl rfl rw2 rfl rfl rfl rfl) rfl (k2 i v1 h1 hi hh1 J) (fun r h2 hp => ?_)
    obtain ⟨v2, rfl, hh2, a', b', hmd, hm2, R2, hv⟩ := hp
    show ab_go (d + 1) ab_M_L_law 447 lv [.int v2] h2 Q
    refine go_s (pc' := 448) (lv' := lv) (st' := []) (h' := h2) rfl rfl rfl ?_
    refine go_goto (off := 590) (tgt := 1038) rfl rfl ?_
    refine go_s (pc' := 1041) (lv' := ab_s1 3 (.int (Int32.ofNat i + Int32.ofInt 6)) lv) (st' := []) (h' := h2) rfl rfl (px_inc (by decide) f3) ?_
    have e6 : Int32.ofNat i + Int32.ofInt 6 = Int32.ofNat (i + 6) := lz_add 6 (by omega)
    rw [e6]
    have f0 := po_s1_other (v := .int (Int32.ofNat (i + 6))) (i := 3) f0 (by decide) (fun q => absurd q.2 (show ¬ (1 : Nat) = 2 by decide))
    have f1 := po_s1_other (v := .int (Int32.ofNat (i + 6))) (i := 3) f1 (by decide) (fun q => absurd q.2 (show ¬ (1 : Nat) = 2 by decide))
    have f2 := po_s1_other (v := .int (Int32.ofNat (i + 6))) (i := 3) f2 (by decide) (fun q => absurd q.2 (show ¬ (1 : Nat) = 2 by decide))
    have f3 : ab_lk (ab_s1 3 (.int (Int32.ofNat (i + 6))) lv) 3 = some (.int (Int32.ofNat (i + 6))) := mk_s1s
    refine go_goto (off := -1023) (tgt := 18) rfl rfl ?_
    exact IH a' b' β _ h2 hmd (lz_hd hL (lz_b1 hL g) hb hi f0 f1 f2 f3 hh2 hm2) sx_ag.rf R2
theorem lz_11 (hL : L ≤ 3072) {a b : Nat} (J : Nat → Int32 → ab_H → Prop) (k1 : ∀ (i : Nat) (h : ab_H), i + 6 ≤ L → sx_h sx_SP z L xs h → gm a b h → R h → ab_go d ab_M_X9_back 0 [(0, .ref 1), (1, .int (xs (i + 1)))] [] h (fun r h1 => ∃ v1, r = some (.int v1) ∧ sx_h sx_SP z L xs h1 ∧ J i v1 h1)) (k2 : ∀ (i : Nat) (v1 : Int32) (h1 : ab_H), i + 6 ≤ L → sx_h sx_SP z L xs h1 → J i v1 h1 → ab_go d ab_M_X10_back 0 [(0, .ref 82), (1, .int (xs (i + 1)))] [] h1 (fun r h2 => ∃ v2, r = some (.int v2) ∧ sx_h sx_SP z L xs h2 ∧ ∃ a' b', cs_md a' b' ∧ gm a' b' h2 ∧ R h2 ∧ True)) : cs_step z L (d + 1) xs Q R 451 a b := fun β lv h g R IH => by
    have hh := g.2.2.2.2.2.2
    obtain ⟨i, hb, hi, f0, f1, f2, f3, r0, hm⟩ := lz_at hL g
    refine go_s (pc' := 452) (lv' := lv) (st' := [.ref 1]) (h' := h) rfl rfl (ig_ald f1) ?_
    refine go_s (pc' := 453) (lv' := lv) (st' := [.ref 0, .ref 1]) (h' := h) rfl rfl (ig_ald f0) ?_
    refine go_s (pc' := 454) (lv' := lv) (st' := [.int (Int32.ofNat i), .ref 0, .ref 1]) (h' := h) rfl rfl (po_ild (nL := 0) f3) ?_
    refine go_s (pc' := 455) (lv' := lv) (st' := [.int (Int32.ofNat 1), .int (Int32.ofNat i), .ref 0, .ref 1]) (h' := h) rfl rfl rfl ?_
    refine go_b2 (f := fun x y => x + y) (v := Int32.ofNat (i + 1)) rfl rfl (fun _ => rfl) (lz_add 1 (by omega)) ?_
    refine go_ial (v := xs (i + 1)) rfl r0 (mk_ix (by omega) (by omega)) (congrArg xs (mk_cl (by omega))) ?_
    obtain ⟨ws1, rw1⟩ := lz_r1 hh
    refine go_c (M' := ab_M_X9_back) (A := [.ref 1, .int (xs (i + 1))]) (rest := []) (lv0 := [(0, .ref 1), (1, .int (xs (i + 1)))]) rfl rfl (ab_cal_v (As := [.int (xs (i + 1))]) rfl rfl rfl rw1 rfl rfl rfl rfl) rfl (k1 i h hi hh hm R) (fun r h1 hp => ?_)
    obtain ⟨v1, rfl, hh1, J⟩ := hp
    show ab_go (d + 1) ab_M_L_law 460 lv [.int v1] h1 Q
    have r01 := lz_r0 hh1
    refine go_s (pc' := 461) (lv' := lv) (st' := []) (h' := h1) rfl rfl rfl ?_
    refine go_s (pc' := 462) (lv' := lv) (st' := [.ref 82]) (h' := h1) rfl rfl (ig_ald f2) ?_
    refine go_s (pc' := 463) (lv' := lv) (st' := [.ref 0, .ref 82]) (h' := h1) rfl rfl (ig_ald f0) ?_
    refine go_s (pc' := 464) (lv' := lv) (st' := [.int (Int32.ofNat i), .ref 0, .ref 82]) (h' := h1) rfl rfl (po_ild (nL := 0) f3) ?_
    refine go_s (pc' := 465) (lv' := lv) (st' := [.int (Int32.ofNat 1), .int (Int32.ofNat i), .ref 0, .ref 82]) (h' := h1) rfl rfl rfl ?_
    refine go_b2 (f := fun x y => x + y) (v := Int32.ofNat (i + 1)) rfl rfl (fun _ => rfl) (lz_add 1 (by omega)) ?_
    refine go_ial (v := xs (i + 1)) rfl r01 (mk_ix (by omega) (by omega)) (congrArg xs (mk_cl (by omega))) ?_
    obtain ⟨ws2, rw2⟩ := lz_r82 hh1
    refine go_c (M' := ab_M_X10_back) (A := [.ref 82, .int (xs (i + 1))]) (rest := []) (lv0 := [(0, .ref 82), (1, .int (xs (i + 1)))]) rfl rfl (ab_cal_v (As := [.int (xs (i + 1))]) rfl rfl rfl rw2 rfl rfl rfl rfl) rfl (k2 i v1 h1 hi hh1 J) (fun r h2 hp => ?_)
    obtain ⟨v2, rfl, hh2, a', b', hmd, hm2, R2, hv⟩ := hp
    show ab_go (d + 1) ab_M_L_law 470 lv [.int v2] h2 Q
    refine go_s (pc' := 471) (lv' := lv) (st' := []) (h' := h2) rfl rfl rfl ?_
    refine go_goto (off := 567) (tgt := 1038) rfl rfl ?_
    refine go_s (pc' := 1041) (lv' := ab_s1 3 (.int (Int32.ofNat i + Int32.ofInt 6)) lv) (st' := []) (h' := h2) rfl rfl (px_inc (by decide) f3) ?_
    have e6 : Int32.ofNat i + Int32.ofInt 6 = Int32.ofNat (i + 6) := lz_add 6 (by omega)
    rw [e6]
    have f0 := po_s1_other (v := .int (Int32.ofNat (i + 6))) (i := 3) f0 (by decide) (fun q => absurd q.2 (show ¬ (1 : Nat) = 2 by decide))
    have f1 := po_s1_other (v := .int (Int32.ofNat (i + 6))) (i := 3) f1 (by decide) (fun q => absurd q.2 (show ¬ (1 : Nat) = 2 by decide))
    have f2 := po_s1_other (v := .int (Int32.ofNat (i + 6))) (i := 3) f2 (by decide) (fun q => absurd q.2 (show ¬ (1 : Nat) = 2 by decide))
    have f3 : ab_lk (ab_s1 3 (.int (Int32.ofNat (i + 6))) lv) 3 = some (.int (Int32.ofNat (i + 6))) := mk_s1s
    refine go_goto (off := -1023) (tgt := 18) rfl rfl ?_
    exact IH a' b' β _ h2 hmd (lz_hd hL (lz_b1 hL g) hb hi f0 f1 f2 f3 hh2 hm2) sx_ag.rf R2
theorem lz_12 (hL : L ≤ 3072) {a b : Nat} (J : Nat → Int32 → ab_H → Prop) (k1 : ∀ (i : Nat) (h : ab_H), i + 6 ≤ L → sx_h sx_SP z L xs h → gm a b h → R h → ab_go d ab_M_X9_stuck 0 [(0, .ref 1), (1, .int (xs (i + 1)))] [] h (fun r h1 => ∃ v1, r = some (.int v1) ∧ sx_h sx_SP z L xs h1 ∧ J i v1 h1)) (k2 : ∀ (i : Nat) (v1 : Int32) (h1 : ab_H), i + 6 ≤ L → sx_h sx_SP z L xs h1 → J i v1 h1 → ab_go d ab_M_X10_stuck 0 [(0, .ref 82), (1, .int (xs (i + 1)))] [] h1 (fun r h2 => ∃ v2, r = some (.int v2) ∧ sx_h sx_SP z L xs h2 ∧ ∃ a' b', cs_md a' b' ∧ gm a' b' h2 ∧ R h2 ∧ v1 = v2)) : cs_step z L (d + 1) xs Q R 474 a b := fun β lv h g R IH => by
    have hh := g.2.2.2.2.2.2
    obtain ⟨i, hb, hi, f0, f1, f2, f3, r0, hm⟩ := lz_at hL g
    refine go_s (pc' := 475) (lv' := lv) (st' := [.ref 1]) (h' := h) rfl rfl (ig_ald f1) ?_
    refine go_s (pc' := 476) (lv' := lv) (st' := [.ref 0, .ref 1]) (h' := h) rfl rfl (ig_ald f0) ?_
    refine go_s (pc' := 477) (lv' := lv) (st' := [.int (Int32.ofNat i), .ref 0, .ref 1]) (h' := h) rfl rfl (po_ild (nL := 0) f3) ?_
    refine go_s (pc' := 478) (lv' := lv) (st' := [.int (Int32.ofNat 1), .int (Int32.ofNat i), .ref 0, .ref 1]) (h' := h) rfl rfl rfl ?_
    refine go_b2 (f := fun x y => x + y) (v := Int32.ofNat (i + 1)) rfl rfl (fun _ => rfl) (lz_add 1 (by omega)) ?_
    refine go_ial (v := xs (i + 1)) rfl r0 (mk_ix (by omega) (by omega)) (congrArg xs (mk_cl (by omega))) ?_
    obtain ⟨ws1, rw1⟩ := lz_r1 hh
    refine go_c (M' := ab_M_X9_stuck) (A := [.ref 1, .int (xs (i + 1))]) (rest := []) (lv0 := [(0, .ref 1), (1, .int (xs (i + 1)))]) rfl rfl (ab_cal_v (As := [.int (xs (i + 1))]) rfl rfl rfl rw1 rfl rfl rfl rfl) rfl (k1 i h hi hh hm R) (fun r h1 hp => ?_)
    obtain ⟨v1, rfl, hh1, J⟩ := hp
    show ab_go (d + 1) ab_M_L_law 483 lv [.int v1] h1 Q
    have r01 := lz_r0 hh1
    refine go_s (pc' := 484) (lv' := lv) (st' := [.ref 82, .int v1]) (h' := h1) rfl rfl (ig_ald f2) ?_
    refine go_s (pc' := 485) (lv' := lv) (st' := [.ref 0, .ref 82, .int v1]) (h' := h1) rfl rfl (ig_ald f0) ?_
    refine go_s (pc' := 486) (lv' := lv) (st' := [.int (Int32.ofNat i), .ref 0, .ref 82, .int v1]) (h' := h1) rfl rfl (po_ild (nL := 0) f3) ?_
    refine go_s (pc' := 487) (lv' := lv) (st' := [.int (Int32.ofNat 1), .int (Int32.ofNat i), .ref 0, .ref 82, .int v1]) (h' := h1) rfl rfl rfl ?_
    refine go_b2 (f := fun x y => x + y) (v := Int32.ofNat (i + 1)) rfl rfl (fun _ => rfl) (lz_add 1 (by omega)) ?_
    refine go_ial (v := xs (i + 1)) rfl r01 (mk_ix (by omega) (by omega)) (congrArg xs (mk_cl (by omega))) ?_
    obtain ⟨ws2, rw2⟩ := lz_r82 hh1
    refine go_c (M' := ab_M_X10_stuck) (A := [.ref 82, .int (xs (i + 1))]) (rest := [.int v1]) (lv0 := [(0, .ref 82), (1, .int (xs (i + 1)))]) rfl rfl (ab_cal_v (As := [.int (xs (i + 1))]) rfl rfl rfl rw2 rfl rfl rfl rfl) rfl (k2 i v1 h1 hi hh1 J) (fun r h2 hp => ?_)
    obtain ⟨v2, rfl, hh2, a', b', hmd, hm2, R2, hv⟩ := hp
    show ab_go (d + 1) ab_M_L_law 492 lv [.int v2, .int v1] h2 Q
    refine go_ict (c := .eq) (off := 546) (tgt := 1038) rfl rfl ((ab_cd_i .eq v1 v2).mpr (congrArg Int32.toInt hv)) ?_
    refine go_s (pc' := 1041) (lv' := ab_s1 3 (.int (Int32.ofNat i + Int32.ofInt 6)) lv) (st' := []) (h' := h2) rfl rfl (px_inc (by decide) f3) ?_
    have e6 : Int32.ofNat i + Int32.ofInt 6 = Int32.ofNat (i + 6) := lz_add 6 (by omega)
    rw [e6]
    have f0 := po_s1_other (v := .int (Int32.ofNat (i + 6))) (i := 3) f0 (by decide) (fun q => absurd q.2 (show ¬ (1 : Nat) = 2 by decide))
    have f1 := po_s1_other (v := .int (Int32.ofNat (i + 6))) (i := 3) f1 (by decide) (fun q => absurd q.2 (show ¬ (1 : Nat) = 2 by decide))
    have f2 := po_s1_other (v := .int (Int32.ofNat (i + 6))) (i := 3) f2 (by decide) (fun q => absurd q.2 (show ¬ (1 : Nat) = 2 by decide))
    have f3 : ab_lk (ab_s1 3 (.int (Int32.ofNat (i + 6))) lv) 3 = some (.int (Int32.ofNat (i + 6))) := mk_s1s
    refine go_goto (off := -1023) (tgt := 18) rfl rfl ?_
    exact IH a' b' β _ h2 hmd (lz_hd hL (lz_b1 hL g) hb hi f0 f1 f2 f3 hh2 hm2) sx_ag.rf R2
theorem lz_13 (hL : L ≤ 3072) {a b : Nat} (J : Nat → Int32 → ab_H → Prop) (k1 : ∀ (i : Nat) (h : ab_H), i + 6 ≤ L → sx_h sx_SP z L xs h → gm a b h → R h → ab_go d ab_M_X9_aim 0 [(0, .ref 1), (1, .int (xs (i + 1))), (2, .int (xs (i + 2)))] [] h (fun r h1 => ∃ v1, r = some (.int v1) ∧ sx_h sx_SP z L xs h1 ∧ J i v1 h1)) (k2 : ∀ (i : Nat) (v1 : Int32) (h1 : ab_H), i + 6 ≤ L → sx_h sx_SP z L xs h1 → J i v1 h1 → ab_go d ab_M_X10_aim 0 [(0, .ref 82), (1, .int (xs (i + 1))), (2, .int (xs (i + 2)))] [] h1 (fun r h2 => ∃ v2, r = some (.int v2) ∧ sx_h sx_SP z L xs h2 ∧ ∃ a' b', cs_md a' b' ∧ gm a' b' h2 ∧ R h2 ∧ True)) : cs_step z L (d + 1) xs Q R 497 a b := fun β lv h g R IH => by
    have hh := g.2.2.2.2.2.2
    obtain ⟨i, hb, hi, f0, f1, f2, f3, r0, hm⟩ := lz_at hL g
    refine go_s (pc' := 498) (lv' := lv) (st' := [.ref 1]) (h' := h) rfl rfl (ig_ald f1) ?_
    refine go_s (pc' := 499) (lv' := lv) (st' := [.ref 0, .ref 1]) (h' := h) rfl rfl (ig_ald f0) ?_
    refine go_s (pc' := 500) (lv' := lv) (st' := [.int (Int32.ofNat i), .ref 0, .ref 1]) (h' := h) rfl rfl (po_ild (nL := 0) f3) ?_
    refine go_s (pc' := 501) (lv' := lv) (st' := [.int (Int32.ofNat 1), .int (Int32.ofNat i), .ref 0, .ref 1]) (h' := h) rfl rfl rfl ?_
    refine go_b2 (f := fun x y => x + y) (v := Int32.ofNat (i + 1)) rfl rfl (fun _ => rfl) (lz_add 1 (by omega)) ?_
    refine go_ial (v := xs (i + 1)) rfl r0 (mk_ix (by omega) (by omega)) (congrArg xs (mk_cl (by omega))) ?_
    refine go_s (pc' := 504) (lv' := lv) (st' := [.ref 0, .int (xs (i + 1)), .ref 1]) (h' := h) rfl rfl (ig_ald f0) ?_
    refine go_s (pc' := 505) (lv' := lv) (st' := [.int (Int32.ofNat i), .ref 0, .int (xs (i + 1)), .ref 1]) (h' := h) rfl rfl (po_ild (nL := 0) f3) ?_
    refine go_s (pc' := 506) (lv' := lv) (st' := [.int (Int32.ofNat 2), .int (Int32.ofNat i), .ref 0, .int (xs (i + 1)), .ref 1]) (h' := h) rfl rfl rfl ?_
    refine go_b2 (f := fun x y => x + y) (v := Int32.ofNat (i + 2)) rfl rfl (fun _ => rfl) (lz_add 2 (by omega)) ?_
    refine go_ial (v := xs (i + 2)) rfl r0 (mk_ix (by omega) (by omega)) (congrArg xs (mk_cl (by omega))) ?_
    obtain ⟨ws1, rw1⟩ := lz_r1 hh
    refine go_c (M' := ab_M_X9_aim) (A := [.ref 1, .int (xs (i + 1)), .int (xs (i + 2))]) (rest := []) (lv0 := [(0, .ref 1), (1, .int (xs (i + 1))), (2, .int (xs (i + 2)))]) rfl rfl (ab_cal_v (As := [.int (xs (i + 1)), .int (xs (i + 2))]) rfl rfl rfl rw1 rfl rfl rfl rfl) rfl (k1 i h hi hh hm R) (fun r h1 hp => ?_)
    obtain ⟨v1, rfl, hh1, J⟩ := hp
    show ab_go (d + 1) ab_M_L_law 511 lv [.int v1] h1 Q
    have r01 := lz_r0 hh1
    refine go_s (pc' := 512) (lv' := lv) (st' := []) (h' := h1) rfl rfl rfl ?_
    refine go_s (pc' := 513) (lv' := lv) (st' := [.ref 82]) (h' := h1) rfl rfl (ig_ald f2) ?_
    refine go_s (pc' := 514) (lv' := lv) (st' := [.ref 0, .ref 82]) (h' := h1) rfl rfl (ig_ald f0) ?_
    refine go_s (pc' := 515) (lv' := lv) (st' := [.int (Int32.ofNat i), .ref 0, .ref 82]) (h' := h1) rfl rfl (po_ild (nL := 0) f3) ?_
    refine go_s (pc' := 516) (lv' := lv) (st' := [.int (Int32.ofNat 1), .int (Int32.ofNat i), .ref 0, .ref 82]) (h' := h1) rfl rfl rfl ?_
    refine go_b2 (f := fun x y => x + y) (v := Int32.ofNat (i + 1)) rfl rfl (fun _ => rfl) (lz_add 1 (by omega)) ?_
    refine go_ial (v := xs (i + 1)) rfl r01 (mk_ix (by omega) (by omega)) (congrArg xs (mk_cl (by omega))) ?_
    refine go_s (pc' := 519) (lv' := lv) (st' := [.ref 0, .int (xs (i + 1)), .ref 82]) (h' := h1) rfl rfl (ig_ald f0) ?_
    refine go_s (pc' := 520) (lv' := lv) (st' := [.int (Int32.ofNat i), .ref 0, .int (xs (i + 1)), .ref 82]) (h' := h1) rfl rfl (po_ild (nL := 0) f3) ?_
    refine go_s (pc' := 521) (lv' := lv) (st' := [.int (Int32.ofNat 2), .int (Int32.ofNat i), .ref 0, .int (xs (i + 1)), .ref 82]) (h' := h1) rfl rfl rfl ?_
    refine go_b2 (f := fun x y => x + y) (v := Int32.ofNat (i + 2)) rfl rfl (fun _ => rfl) (lz_add 2 (by omega)) ?_
    refine go_ial (v := xs (i + 2)) rfl r01 (mk_ix (by omega) (by omega)) (congrArg xs (mk_cl (by omega))) ?_
    obtain ⟨ws2, rw2⟩ := lz_r82 hh1
    refine go_c (M' := ab_M_X10_aim) (A := [.ref 82, .int (xs (i + 1)), .int (xs (i + 2))]) (rest := []) (lv0 := [(0, .ref 82), (1, .int (xs (i + 1))), (2, .int (xs (i + 2)))]) rfl rfl (ab_cal_v (As := [.int (xs (i + 1)), .int (xs (i + 2))]) rfl rfl rfl rw2 rfl rfl rfl rfl) rfl (k2 i v1 h1 hi hh1 J) (fun r h2 hp => ?_)
    obtain ⟨v2, rfl, hh2, a', b', hmd, hm2, R2, hv⟩ := hp
    show ab_go (d + 1) ab_M_L_law 526 lv [.int v2] h2 Q
    refine go_s (pc' := 527) (lv' := lv) (st' := []) (h' := h2) rfl rfl rfl ?_
    refine go_goto (off := 511) (tgt := 1038) rfl rfl ?_
    refine go_s (pc' := 1041) (lv' := ab_s1 3 (.int (Int32.ofNat i + Int32.ofInt 6)) lv) (st' := []) (h' := h2) rfl rfl (px_inc (by decide) f3) ?_
    have e6 : Int32.ofNat i + Int32.ofInt 6 = Int32.ofNat (i + 6) := lz_add 6 (by omega)
    rw [e6]
    have f0 := po_s1_other (v := .int (Int32.ofNat (i + 6))) (i := 3) f0 (by decide) (fun q => absurd q.2 (show ¬ (1 : Nat) = 2 by decide))
    have f1 := po_s1_other (v := .int (Int32.ofNat (i + 6))) (i := 3) f1 (by decide) (fun q => absurd q.2 (show ¬ (1 : Nat) = 2 by decide))
    have f2 := po_s1_other (v := .int (Int32.ofNat (i + 6))) (i := 3) f2 (by decide) (fun q => absurd q.2 (show ¬ (1 : Nat) = 2 by decide))
    have f3 : ab_lk (ab_s1 3 (.int (Int32.ofNat (i + 6))) lv) 3 = some (.int (Int32.ofNat (i + 6))) := mk_s1s
    refine go_goto (off := -1023) (tgt := 18) rfl rfl ?_
    exact IH a' b' β _ h2 hmd (lz_hd hL (lz_b1 hL g) hb hi f0 f1 f2 f3 hh2 hm2) sx_ag.rf R2
theorem lz_14 (hL : L ≤ 3072) {a b : Nat} (J : Nat → Int32 → ab_H → Prop) (k1 : ∀ (i : Nat) (h : ab_H), i + 6 ≤ L → sx_h sx_SP z L xs h → gm a b h → R h → ab_go d ab_M_X9_makes 0 [(0, .ref 1), (1, .int (xs (i + 1))), (2, .int (xs (i + 2)))] [] h (fun r h1 => ∃ v1, r = some (.int v1) ∧ sx_h sx_SP z L xs h1 ∧ J i v1 h1)) (k2 : ∀ (i : Nat) (v1 : Int32) (h1 : ab_H), i + 6 ≤ L → sx_h sx_SP z L xs h1 → J i v1 h1 → ab_go d ab_M_X10_makes 0 [(0, .ref 82), (1, .int (xs (i + 1))), (2, .int (xs (i + 2)))] [] h1 (fun r h2 => ∃ v2, r = some (.int v2) ∧ sx_h sx_SP z L xs h2 ∧ ∃ a' b', cs_md a' b' ∧ gm a' b' h2 ∧ R h2 ∧ True)) : cs_step z L (d + 1) xs Q R 530 a b := fun β lv h g R IH => by
    have hh := g.2.2.2.2.2.2
    obtain ⟨i, hb, hi, f0, f1, f2, f3, r0, hm⟩ := lz_at hL g
    refine go_s (pc' := 531) (lv' := lv) (st' := [.ref 1]) (h' := h) rfl rfl (ig_ald f1) ?_
    refine go_s (pc' := 532) (lv' := lv) (st' := [.ref 0, .ref 1]) (h' := h) rfl rfl (ig_ald f0) ?_
    refine go_s (pc' := 533) (lv' := lv) (st' := [.int (Int32.ofNat i), .ref 0, .ref 1]) (h' := h) rfl rfl (po_ild (nL := 0) f3) ?_
    refine go_s (pc' := 534) (lv' := lv) (st' := [.int (Int32.ofNat 1), .int (Int32.ofNat i), .ref 0, .ref 1]) (h' := h) rfl rfl rfl ?_
    refine go_b2 (f := fun x y => x + y) (v := Int32.ofNat (i + 1)) rfl rfl (fun _ => rfl) (lz_add 1 (by omega)) ?_
    refine go_ial (v := xs (i + 1)) rfl r0 (mk_ix (by omega) (by omega)) (congrArg xs (mk_cl (by omega))) ?_
    refine go_s (pc' := 537) (lv' := lv) (st' := [.ref 0, .int (xs (i + 1)), .ref 1]) (h' := h) rfl rfl (ig_ald f0) ?_
    refine go_s (pc' := 538) (lv' := lv) (st' := [.int (Int32.ofNat i), .ref 0, .int (xs (i + 1)), .ref 1]) (h' := h) rfl rfl (po_ild (nL := 0) f3) ?_
    refine go_s (pc' := 539) (lv' := lv) (st' := [.int (Int32.ofNat 2), .int (Int32.ofNat i), .ref 0, .int (xs (i + 1)), .ref 1]) (h' := h) rfl rfl rfl ?_
    refine go_b2 (f := fun x y => x + y) (v := Int32.ofNat (i + 2)) rfl rfl (fun _ => rfl) (lz_add 2 (by omega)) ?_
    refine go_ial (v := xs (i + 2)) rfl r0 (mk_ix (by omega) (by omega)) (congrArg xs (mk_cl (by omega))) ?_
    obtain ⟨ws1, rw1⟩ := lz_r1 hh
    refine go_c (M' := ab_M_X9_makes) (A := [.ref 1, .int (xs (i + 1)), .int (xs (i + 2))]) (rest := []) (lv0 := [(0, .ref 1), (1, .int (xs (i + 1))), (2, .int (xs (i + 2)))]) rfl rfl (ab_cal_v (As := [.int (xs (i + 1)), .int (xs (i + 2))]) rfl rfl rfl rw1 rfl rfl rfl rfl) rfl (k1 i h hi hh hm R) (fun r h1 hp => ?_)
    obtain ⟨v1, rfl, hh1, J⟩ := hp
    show ab_go (d + 1) ab_M_L_law 544 lv [.int v1] h1 Q
    have r01 := lz_r0 hh1
    refine go_s (pc' := 545) (lv' := lv) (st' := []) (h' := h1) rfl rfl rfl ?_
    refine go_s (pc' := 546) (lv' := lv) (st' := [.ref 82]) (h' := h1) rfl rfl (ig_ald f2) ?_
    refine go_s (pc' := 547) (lv' := lv) (st' := [.ref 0, .ref 82]) (h' := h1) rfl rfl (ig_ald f0) ?_
    refine go_s (pc' := 548) (lv' := lv) (st' := [.int (Int32.ofNat i), .ref 0, .ref 82]) (h' := h1) rfl rfl (po_ild (nL := 0) f3) ?_
    refine go_s (pc' := 549) (lv' := lv) (st' := [.int (Int32.ofNat 1), .int (Int32.ofNat i), .ref 0, .ref 82]) (h' := h1) rfl rfl rfl ?_
    refine go_b2 (f := fun x y => x + y) (v := Int32.ofNat (i + 1)) rfl rfl (fun _ => rfl) (lz_add 1 (by omega)) ?_
    refine go_ial (v := xs (i + 1)) rfl r01 (mk_ix (by omega) (by omega)) (congrArg xs (mk_cl (by omega))) ?_
    refine go_s (pc' := 552) (lv' := lv) (st' := [.ref 0, .int (xs (i + 1)), .ref 82]) (h' := h1) rfl rfl (ig_ald f0) ?_
    refine go_s (pc' := 553) (lv' := lv) (st' := [.int (Int32.ofNat i), .ref 0, .int (xs (i + 1)), .ref 82]) (h' := h1) rfl rfl (po_ild (nL := 0) f3) ?_
    refine go_s (pc' := 554) (lv' := lv) (st' := [.int (Int32.ofNat 2), .int (Int32.ofNat i), .ref 0, .int (xs (i + 1)), .ref 82]) (h' := h1) rfl rfl rfl ?_
    refine go_b2 (f := fun x y => x + y) (v := Int32.ofNat (i + 2)) rfl rfl (fun _ => rfl) (lz_add 2 (by omega)) ?_
    refine go_ial (v := xs (i + 2)) rfl r01 (mk_ix (by omega) (by omega)) (congrArg xs (mk_cl (by omega))) ?_
    obtain ⟨ws2, rw2⟩ := lz_r82 hh1
    refine go_c (M' := ab_M_X10_makes) (A := [.ref 82, .int (xs (i + 1)), .int (xs (i + 2))]) (rest := []) (lv0 := [(0, .ref 82), (1, .int (xs (i + 1))), (2, .int (xs (i + 2)))]) rfl rfl (ab_cal_v (As := [.int (xs (i + 1)), .int (xs (i + 2))]) rfl rfl rfl rw2 rfl rfl rfl rfl) rfl (k2 i v1 h1 hi hh1 J) (fun r h2 hp => ?_)
    obtain ⟨v2, rfl, hh2, a', b', hmd, hm2, R2, hv⟩ := hp
    show ab_go (d + 1) ab_M_L_law 559 lv [.int v2] h2 Q
    refine go_s (pc' := 560) (lv' := lv) (st' := []) (h' := h2) rfl rfl rfl ?_
    refine go_goto (off := 478) (tgt := 1038) rfl rfl ?_
    refine go_s (pc' := 1041) (lv' := ab_s1 3 (.int (Int32.ofNat i + Int32.ofInt 6)) lv) (st' := []) (h' := h2) rfl rfl (px_inc (by decide) f3) ?_
    have e6 : Int32.ofNat i + Int32.ofInt 6 = Int32.ofNat (i + 6) := lz_add 6 (by omega)
    rw [e6]
    have f0 := po_s1_other (v := .int (Int32.ofNat (i + 6))) (i := 3) f0 (by decide) (fun q => absurd q.2 (show ¬ (1 : Nat) = 2 by decide))
    have f1 := po_s1_other (v := .int (Int32.ofNat (i + 6))) (i := 3) f1 (by decide) (fun q => absurd q.2 (show ¬ (1 : Nat) = 2 by decide))
    have f2 := po_s1_other (v := .int (Int32.ofNat (i + 6))) (i := 3) f2 (by decide) (fun q => absurd q.2 (show ¬ (1 : Nat) = 2 by decide))
    have f3 : ab_lk (ab_s1 3 (.int (Int32.ofNat (i + 6))) lv) 3 = some (.int (Int32.ofNat (i + 6))) := mk_s1s
    refine go_goto (off := -1023) (tgt := 18) rfl rfl ?_
    exact IH a' b' β _ h2 hmd (lz_hd hL (lz_b1 hL g) hb hi f0 f1 f2 f3 hh2 hm2) sx_ag.rf R2
theorem lz_15 (hL : L ≤ 3072) {a b : Nat} (J : Nat → Int32 → ab_H → Prop) (k1 : ∀ (i : Nat) (h : ab_H), i + 6 ≤ L → sx_h sx_SP z L xs h → gm a b h → R h → ab_go d ab_M_X9_judge 0 [(0, .ref 1), (1, .int (xs (i + 1))), (2, .int (xs (i + 2))), (3, .int (xs (i + 3))), (4, .int (xs (i + 4))), (5, .int (xs (i + 5)))] [] h (fun r h1 => ∃ v1, r = some (.int v1) ∧ sx_h sx_SP z L xs h1 ∧ J i v1 h1)) (k2 : ∀ (i : Nat) (v1 : Int32) (h1 : ab_H), i + 6 ≤ L → sx_h sx_SP z L xs h1 → J i v1 h1 → ab_go d ab_M_X10_judge 0 [(0, .ref 82), (1, .int (xs (i + 1))), (2, .int (xs (i + 2))), (3, .int (xs (i + 3))), (4, .int (xs (i + 4))), (5, .int (xs (i + 5)))] [] h1 (fun r h2 => ∃ v2, r = some (.int v2) ∧ sx_h sx_SP z L xs h2 ∧ ∃ a' b', cs_md a' b' ∧ gm a' b' h2 ∧ R h2 ∧ True)) : cs_step z L (d + 1) xs Q R 563 a b := fun β lv h g R IH => by
    have hh := g.2.2.2.2.2.2
    obtain ⟨i, hb, hi, f0, f1, f2, f3, r0, hm⟩ := lz_at hL g
    refine go_s (pc' := 564) (lv' := lv) (st' := [.ref 1]) (h' := h) rfl rfl (ig_ald f1) ?_
    refine go_s (pc' := 565) (lv' := lv) (st' := [.ref 0, .ref 1]) (h' := h) rfl rfl (ig_ald f0) ?_
    refine go_s (pc' := 566) (lv' := lv) (st' := [.int (Int32.ofNat i), .ref 0, .ref 1]) (h' := h) rfl rfl (po_ild (nL := 0) f3) ?_
    refine go_s (pc' := 567) (lv' := lv) (st' := [.int (Int32.ofNat 1), .int (Int32.ofNat i), .ref 0, .ref 1]) (h' := h) rfl rfl rfl ?_
    refine go_b2 (f := fun x y => x + y) (v := Int32.ofNat (i + 1)) rfl rfl (fun _ => rfl) (lz_add 1 (by omega)) ?_
    refine go_ial (v := xs (i + 1)) rfl r0 (mk_ix (by omega) (by omega)) (congrArg xs (mk_cl (by omega))) ?_
    refine go_s (pc' := 570) (lv' := lv) (st' := [.ref 0, .int (xs (i + 1)), .ref 1]) (h' := h) rfl rfl (ig_ald f0) ?_
    refine go_s (pc' := 571) (lv' := lv) (st' := [.int (Int32.ofNat i), .ref 0, .int (xs (i + 1)), .ref 1]) (h' := h) rfl rfl (po_ild (nL := 0) f3) ?_
    refine go_s (pc' := 572) (lv' := lv) (st' := [.int (Int32.ofNat 2), .int (Int32.ofNat i), .ref 0, .int (xs (i + 1)), .ref 1]) (h' := h) rfl rfl rfl ?_
    refine go_b2 (f := fun x y => x + y) (v := Int32.ofNat (i + 2)) rfl rfl (fun _ => rfl) (lz_add 2 (by omega)) ?_
    refine go_ial (v := xs (i + 2)) rfl r0 (mk_ix (by omega) (by omega)) (congrArg xs (mk_cl (by omega))) ?_
    refine go_s (pc' := 575) (lv' := lv) (st' := [.ref 0, .int (xs (i + 2)), .int (xs (i + 1)), .ref 1]) (h' := h) rfl rfl (ig_ald f0) ?_
    refine go_s (pc' := 576) (lv' := lv) (st' := [.int (Int32.ofNat i), .ref 0, .int (xs (i + 2)), .int (xs (i + 1)), .ref 1]) (h' := h) rfl rfl (po_ild (nL := 0) f3) ?_
    refine go_s (pc' := 577) (lv' := lv) (st' := [.int (Int32.ofNat 3), .int (Int32.ofNat i), .ref 0, .int (xs (i + 2)), .int (xs (i + 1)), .ref 1]) (h' := h) rfl rfl rfl ?_
    refine go_b2 (f := fun x y => x + y) (v := Int32.ofNat (i + 3)) rfl rfl (fun _ => rfl) (lz_add 3 (by omega)) ?_
    refine go_ial (v := xs (i + 3)) rfl r0 (mk_ix (by omega) (by omega)) (congrArg xs (mk_cl (by omega))) ?_
    refine go_s (pc' := 580) (lv' := lv) (st' := [.ref 0, .int (xs (i + 3)), .int (xs (i + 2)), .int (xs (i + 1)), .ref 1]) (h' := h) rfl rfl (ig_ald f0) ?_
    refine go_s (pc' := 581) (lv' := lv) (st' := [.int (Int32.ofNat i), .ref 0, .int (xs (i + 3)), .int (xs (i + 2)), .int (xs (i + 1)), .ref 1]) (h' := h) rfl rfl (po_ild (nL := 0) f3) ?_
    refine go_s (pc' := 582) (lv' := lv) (st' := [.int (Int32.ofNat 4), .int (Int32.ofNat i), .ref 0, .int (xs (i + 3)), .int (xs (i + 2)), .int (xs (i + 1)), .ref 1]) (h' := h) rfl rfl rfl ?_
    refine go_b2 (f := fun x y => x + y) (v := Int32.ofNat (i + 4)) rfl rfl (fun _ => rfl) (lz_add 4 (by omega)) ?_
    refine go_ial (v := xs (i + 4)) rfl r0 (mk_ix (by omega) (by omega)) (congrArg xs (mk_cl (by omega))) ?_
    refine go_s (pc' := 585) (lv' := lv) (st' := [.ref 0, .int (xs (i + 4)), .int (xs (i + 3)), .int (xs (i + 2)), .int (xs (i + 1)), .ref 1]) (h' := h) rfl rfl (ig_ald f0) ?_
    refine go_s (pc' := 586) (lv' := lv) (st' := [.int (Int32.ofNat i), .ref 0, .int (xs (i + 4)), .int (xs (i + 3)), .int (xs (i + 2)), .int (xs (i + 1)), .ref 1]) (h' := h) rfl rfl (po_ild (nL := 0) f3) ?_
    refine go_s (pc' := 587) (lv' := lv) (st' := [.int (Int32.ofNat 5), .int (Int32.ofNat i), .ref 0, .int (xs (i + 4)), .int (xs (i + 3)), .int (xs (i + 2)), .int (xs (i + 1)), .ref 1]) (h' := h) rfl rfl rfl ?_
    refine go_b2 (f := fun x y => x + y) (v := Int32.ofNat (i + 5)) rfl rfl (fun _ => rfl) (lz_add 5 (by omega)) ?_
    refine go_ial (v := xs (i + 5)) rfl r0 (mk_ix (by omega) (by omega)) (congrArg xs (mk_cl (by omega))) ?_
    obtain ⟨ws1, rw1⟩ := lz_r1 hh
    refine go_c (M' := ab_M_X9_judge) (A := [.ref 1, .int (xs (i + 1)), .int (xs (i + 2)), .int (xs (i + 3)), .int (xs (i + 4)), .int (xs (i + 5))]) (rest := []) (lv0 := [(0, .ref 1), (1, .int (xs (i + 1))), (2, .int (xs (i + 2))), (3, .int (xs (i + 3))), (4, .int (xs (i + 4))), (5, .int (xs (i + 5)))]) rfl rfl (ab_cal_v (As := [.int (xs (i + 1)), .int (xs (i + 2)), .int (xs (i + 3)), .int (xs (i + 4)), .int (xs (i + 5))]) rfl rfl rfl rw1 rfl rfl rfl rfl) rfl (k1 i h hi hh hm R) (fun r h1 hp => ?_)
    obtain ⟨v1, rfl, hh1, J⟩ := hp
    show ab_go (d + 1) ab_M_L_law 592 lv [.int v1] h1 Q
    have r01 := lz_r0 hh1
    refine go_s (pc' := 593) (lv' := lv) (st' := []) (h' := h1) rfl rfl rfl ?_
    refine go_s (pc' := 594) (lv' := lv) (st' := [.ref 82]) (h' := h1) rfl rfl (ig_ald f2) ?_
    refine go_s (pc' := 595) (lv' := lv) (st' := [.ref 0, .ref 82]) (h' := h1) rfl rfl (ig_ald f0) ?_
    refine go_s (pc' := 596) (lv' := lv) (st' := [.int (Int32.ofNat i), .ref 0, .ref 82]) (h' := h1) rfl rfl (po_ild (nL := 0) f3) ?_
    refine go_s (pc' := 597) (lv' := lv) (st' := [.int (Int32.ofNat 1), .int (Int32.ofNat i), .ref 0, .ref 82]) (h' := h1) rfl rfl rfl ?_
    refine go_b2 (f := fun x y => x + y) (v := Int32.ofNat (i + 1)) rfl rfl (fun _ => rfl) (lz_add 1 (by omega)) ?_
    refine go_ial (v := xs (i + 1)) rfl r01 (mk_ix (by omega) (by omega)) (congrArg xs (mk_cl (by omega))) ?_
    refine go_s (pc' := 600) (lv' := lv) (st' := [.ref 0, .int (xs (i + 1)), .ref 82]) (h' := h1) rfl rfl (ig_ald f0) ?_
    refine go_s (pc' := 601) (lv' := lv) (st' := [.int (Int32.ofNat i), .ref 0, .int (xs (i + 1)), .ref 82]) (h' := h1) rfl rfl (po_ild (nL := 0) f3) ?_
    refine go_s (pc' := 602) (lv' := lv) (st' := [.int (Int32.ofNat 2), .int (Int32.ofNat i), .ref 0, .int (xs (i + 1)), .ref 82]) (h' := h1) rfl rfl rfl ?_
    refine go_b2 (f := fun x y => x + y) (v := Int32.ofNat (i + 2)) rfl rfl (fun _ => rfl) (lz_add 2 (by omega)) ?_
    refine go_ial (v := xs (i + 2)) rfl r01 (mk_ix (by omega) (by omega)) (congrArg xs (mk_cl (by omega))) ?_
    refine go_s (pc' := 605) (lv' := lv) (st' := [.ref 0, .int (xs (i + 2)), .int (xs (i + 1)), .ref 82]) (h' := h1) rfl rfl (ig_ald f0) ?_
    refine go_s (pc' := 606) (lv' := lv) (st' := [.int (Int32.ofNat i), .ref 0, .int (xs (i + 2)), .int (xs (i + 1)), .ref 82]) (h' := h1) rfl rfl (po_ild (nL := 0) f3) ?_
    refine go_s (pc' := 607) (lv' := lv) (st' := [.int (Int32.ofNat 3), .int (Int32.ofNat i), .ref 0, .int (xs (i + 2)), .int (xs (i + 1)), .ref 82]) (h' := h1) rfl rfl rfl ?_
    refine go_b2 (f := fun x y => x + y) (v := Int32.ofNat (i + 3)) rfl rfl (fun _ => rfl) (lz_add 3 (by omega)) ?_
    refine go_ial (v := xs (i + 3)) rfl r01 (mk_ix (by omega) (by omega)) (congrArg xs (mk_cl (by omega))) ?_
    refine go_s (pc' := 610) (lv' := lv) (st' := [.ref 0, .int (xs (i + 3)), .int (xs (i + 2)), .int (xs (i + 1)), .ref 82]) (h' := h1) rfl rfl (ig_ald f0) ?_
    refine go_s (pc' := 611) (lv' := lv) (st' := [.int (Int32.ofNat i), .ref 0, .int (xs (i + 3)), .int (xs (i + 2)), .int (xs (i + 1)), .ref 82]) (h' := h1) rfl rfl (po_ild (nL := 0) f3) ?_
    refine go_s (pc' := 612) (lv' := lv) (st' := [.int (Int32.ofNat 4), .int (Int32.ofNat i), .ref 0, .int (xs (i + 3)), .int (xs (i + 2)), .int (xs (i + 1)), .ref 82]) (h' := h1) rfl rfl rfl ?_
    refine go_b2 (f := fun x y => x + y) (v := Int32.ofNat (i + 4)) rfl rfl (fun _ => rfl) (lz_add 4 (by omega)) ?_
    refine go_ial (v := xs (i + 4)) rfl r01 (mk_ix (by omega) (by omega)) (congrArg xs (mk_cl (by omega))) ?_
    refine go_s (pc' := 615) (lv' := lv) (st' := [.ref 0, .int (xs (i + 4)), .int (xs (i + 3)), .int (xs (i + 2)), .int (xs (i + 1)), .ref 82]) (h' := h1) rfl rfl (ig_ald f0) ?_
    refine go_s (pc' := 616) (lv' := lv) (st' := [.int (Int32.ofNat i), .ref 0, .int (xs (i + 4)), .int (xs (i + 3)), .int (xs (i + 2)), .int (xs (i + 1)), .ref 82]) (h' := h1) rfl rfl (po_ild (nL := 0) f3) ?_
    refine go_s (pc' := 617) (lv' := lv) (st' := [.int (Int32.ofNat 5), .int (Int32.ofNat i), .ref 0, .int (xs (i + 4)), .int (xs (i + 3)), .int (xs (i + 2)), .int (xs (i + 1)), .ref 82]) (h' := h1) rfl rfl rfl ?_
    refine go_b2 (f := fun x y => x + y) (v := Int32.ofNat (i + 5)) rfl rfl (fun _ => rfl) (lz_add 5 (by omega)) ?_
    refine go_ial (v := xs (i + 5)) rfl r01 (mk_ix (by omega) (by omega)) (congrArg xs (mk_cl (by omega))) ?_
    obtain ⟨ws2, rw2⟩ := lz_r82 hh1
    refine go_c (M' := ab_M_X10_judge) (A := [.ref 82, .int (xs (i + 1)), .int (xs (i + 2)), .int (xs (i + 3)), .int (xs (i + 4)), .int (xs (i + 5))]) (rest := []) (lv0 := [(0, .ref 82), (1, .int (xs (i + 1))), (2, .int (xs (i + 2))), (3, .int (xs (i + 3))), (4, .int (xs (i + 4))), (5, .int (xs (i + 5)))]) rfl rfl (ab_cal_v (As := [.int (xs (i + 1)), .int (xs (i + 2)), .int (xs (i + 3)), .int (xs (i + 4)), .int (xs (i + 5))]) rfl rfl rfl rw2 rfl rfl rfl rfl) rfl (k2 i v1 h1 hi hh1 J) (fun r h2 hp => ?_)
    obtain ⟨v2, rfl, hh2, a', b', hmd, hm2, R2, hv⟩ := hp
    show ab_go (d + 1) ab_M_L_law 622 lv [.int v2] h2 Q
    refine go_s (pc' := 623) (lv' := lv) (st' := []) (h' := h2) rfl rfl rfl ?_
    refine go_goto (off := 415) (tgt := 1038) rfl rfl ?_
    refine go_s (pc' := 1041) (lv' := ab_s1 3 (.int (Int32.ofNat i + Int32.ofInt 6)) lv) (st' := []) (h' := h2) rfl rfl (px_inc (by decide) f3) ?_
    have e6 : Int32.ofNat i + Int32.ofInt 6 = Int32.ofNat (i + 6) := lz_add 6 (by omega)
    rw [e6]
    have f0 := po_s1_other (v := .int (Int32.ofNat (i + 6))) (i := 3) f0 (by decide) (fun q => absurd q.2 (show ¬ (1 : Nat) = 2 by decide))
    have f1 := po_s1_other (v := .int (Int32.ofNat (i + 6))) (i := 3) f1 (by decide) (fun q => absurd q.2 (show ¬ (1 : Nat) = 2 by decide))
    have f2 := po_s1_other (v := .int (Int32.ofNat (i + 6))) (i := 3) f2 (by decide) (fun q => absurd q.2 (show ¬ (1 : Nat) = 2 by decide))
    have f3 : ab_lk (ab_s1 3 (.int (Int32.ofNat (i + 6))) lv) 3 = some (.int (Int32.ofNat (i + 6))) := mk_s1s
    refine go_goto (off := -1023) (tgt := 18) rfl rfl ?_
    exact IH a' b' β _ h2 hmd (lz_hd hL (lz_b1 hL g) hb hi f0 f1 f2 f3 hh2 hm2) sx_ag.rf R2
theorem lz_16 (hL : L ≤ 3072) {a b : Nat} (J : Nat → Int32 → ab_H → Prop) (k1 : ∀ (i : Nat) (h : ab_H), i + 6 ≤ L → sx_h sx_SP z L xs h → gm a b h → R h → ab_go d ab_M_X9_cost 0 [(0, .ref 1)] [] h (fun r h1 => ∃ v1, r = some (.int v1) ∧ sx_h sx_SP z L xs h1 ∧ J i v1 h1)) (k2 : ∀ (i : Nat) (v1 : Int32) (h1 : ab_H), i + 6 ≤ L → sx_h sx_SP z L xs h1 → J i v1 h1 → ab_go d ab_M_X10_cost 0 [(0, .ref 82)] [] h1 (fun r h2 => ∃ v2, r = some (.int v2) ∧ sx_h sx_SP z L xs h2 ∧ ∃ a' b', cs_md a' b' ∧ gm a' b' h2 ∧ R h2 ∧ True)) : cs_step z L (d + 1) xs Q R 626 a b := fun β lv h g R IH => by
    have hh := g.2.2.2.2.2.2
    obtain ⟨i, hb, hi, f0, f1, f2, f3, r0, hm⟩ := lz_at hL g
    refine go_s (pc' := 627) (lv' := lv) (st' := [.ref 1]) (h' := h) rfl rfl (ig_ald f1) ?_
    obtain ⟨ws1, rw1⟩ := lz_r1 hh
    refine go_c (M' := ab_M_X9_cost) (A := [.ref 1]) (rest := []) (lv0 := [(0, .ref 1)]) rfl rfl (ab_cal_v (As := []) rfl rfl rfl rw1 rfl rfl rfl rfl) rfl (k1 i h hi hh hm R) (fun r h1 hp => ?_)
    obtain ⟨v1, rfl, hh1, J⟩ := hp
    show ab_go (d + 1) ab_M_L_law 630 lv [.int v1] h1 Q
    have r01 := lz_r0 hh1
    refine go_s (pc' := 631) (lv' := lv) (st' := []) (h' := h1) rfl rfl rfl ?_
    refine go_s (pc' := 632) (lv' := lv) (st' := [.ref 82]) (h' := h1) rfl rfl (ig_ald f2) ?_
    obtain ⟨ws2, rw2⟩ := lz_r82 hh1
    refine go_c (M' := ab_M_X10_cost) (A := [.ref 82]) (rest := []) (lv0 := [(0, .ref 82)]) rfl rfl (ab_cal_v (As := []) rfl rfl rfl rw2 rfl rfl rfl rfl) rfl (k2 i v1 h1 hi hh1 J) (fun r h2 hp => ?_)
    obtain ⟨v2, rfl, hh2, a', b', hmd, hm2, R2, hv⟩ := hp
    show ab_go (d + 1) ab_M_L_law 635 lv [.int v2] h2 Q
    refine go_s (pc' := 636) (lv' := lv) (st' := []) (h' := h2) rfl rfl rfl ?_
    refine go_goto (off := 402) (tgt := 1038) rfl rfl ?_
    refine go_s (pc' := 1041) (lv' := ab_s1 3 (.int (Int32.ofNat i + Int32.ofInt 6)) lv) (st' := []) (h' := h2) rfl rfl (px_inc (by decide) f3) ?_
    have e6 : Int32.ofNat i + Int32.ofInt 6 = Int32.ofNat (i + 6) := lz_add 6 (by omega)
    rw [e6]
    have f0 := po_s1_other (v := .int (Int32.ofNat (i + 6))) (i := 3) f0 (by decide) (fun q => absurd q.2 (show ¬ (1 : Nat) = 2 by decide))
    have f1 := po_s1_other (v := .int (Int32.ofNat (i + 6))) (i := 3) f1 (by decide) (fun q => absurd q.2 (show ¬ (1 : Nat) = 2 by decide))
    have f2 := po_s1_other (v := .int (Int32.ofNat (i + 6))) (i := 3) f2 (by decide) (fun q => absurd q.2 (show ¬ (1 : Nat) = 2 by decide))
    have f3 : ab_lk (ab_s1 3 (.int (Int32.ofNat (i + 6))) lv) 3 = some (.int (Int32.ofNat (i + 6))) := mk_s1s
    refine go_goto (off := -1023) (tgt := 18) rfl rfl ?_
    exact IH a' b' β _ h2 hmd (lz_hd hL (lz_b1 hL g) hb hi f0 f1 f2 f3 hh2 hm2) sx_ag.rf R2
theorem lz_17 (hL : L ≤ 3072) {a b : Nat} (J : Nat → Int32 → ab_H → Prop) (k1 : ∀ (i : Nat) (h : ab_H), i + 6 ≤ L → sx_h sx_SP z L xs h → gm a b h → R h → ab_go d ab_M_X9_would 0 [(0, .ref 1), (1, .int (xs (i + 1))), (2, .int (xs (i + 2)))] [] h (fun r h1 => ∃ v1, r = some (.int v1) ∧ sx_h sx_SP z L xs h1 ∧ J i v1 h1)) (k2 : ∀ (i : Nat) (v1 : Int32) (h1 : ab_H), i + 6 ≤ L → sx_h sx_SP z L xs h1 → J i v1 h1 → ab_go d ab_M_X10_would 0 [(0, .ref 82), (1, .int (xs (i + 1))), (2, .int (xs (i + 2)))] [] h1 (fun r h2 => ∃ v2, r = some (.int v2) ∧ sx_h sx_SP z L xs h2 ∧ ∃ a' b', cs_md a' b' ∧ gm a' b' h2 ∧ R h2 ∧ True)) : cs_step z L (d + 1) xs Q R 639 a b := fun β lv h g R IH => by
    have hh := g.2.2.2.2.2.2
    obtain ⟨i, hb, hi, f0, f1, f2, f3, r0, hm⟩ := lz_at hL g
    refine go_s (pc' := 640) (lv' := lv) (st' := [.ref 1]) (h' := h) rfl rfl (ig_ald f1) ?_
    refine go_s (pc' := 641) (lv' := lv) (st' := [.ref 0, .ref 1]) (h' := h) rfl rfl (ig_ald f0) ?_
    refine go_s (pc' := 642) (lv' := lv) (st' := [.int (Int32.ofNat i), .ref 0, .ref 1]) (h' := h) rfl rfl (po_ild (nL := 0) f3) ?_
    refine go_s (pc' := 643) (lv' := lv) (st' := [.int (Int32.ofNat 1), .int (Int32.ofNat i), .ref 0, .ref 1]) (h' := h) rfl rfl rfl ?_
    refine go_b2 (f := fun x y => x + y) (v := Int32.ofNat (i + 1)) rfl rfl (fun _ => rfl) (lz_add 1 (by omega)) ?_
    refine go_ial (v := xs (i + 1)) rfl r0 (mk_ix (by omega) (by omega)) (congrArg xs (mk_cl (by omega))) ?_
    refine go_s (pc' := 646) (lv' := lv) (st' := [.ref 0, .int (xs (i + 1)), .ref 1]) (h' := h) rfl rfl (ig_ald f0) ?_
    refine go_s (pc' := 647) (lv' := lv) (st' := [.int (Int32.ofNat i), .ref 0, .int (xs (i + 1)), .ref 1]) (h' := h) rfl rfl (po_ild (nL := 0) f3) ?_
    refine go_s (pc' := 648) (lv' := lv) (st' := [.int (Int32.ofNat 2), .int (Int32.ofNat i), .ref 0, .int (xs (i + 1)), .ref 1]) (h' := h) rfl rfl rfl ?_
    refine go_b2 (f := fun x y => x + y) (v := Int32.ofNat (i + 2)) rfl rfl (fun _ => rfl) (lz_add 2 (by omega)) ?_
    refine go_ial (v := xs (i + 2)) rfl r0 (mk_ix (by omega) (by omega)) (congrArg xs (mk_cl (by omega))) ?_
    obtain ⟨ws1, rw1⟩ := lz_r1 hh
    refine go_c (M' := ab_M_X9_would) (A := [.ref 1, .int (xs (i + 1)), .int (xs (i + 2))]) (rest := []) (lv0 := [(0, .ref 1), (1, .int (xs (i + 1))), (2, .int (xs (i + 2)))]) rfl rfl (ab_cal_v (As := [.int (xs (i + 1)), .int (xs (i + 2))]) rfl rfl rfl rw1 rfl rfl rfl rfl) rfl (k1 i h hi hh hm R) (fun r h1 hp => ?_)
    obtain ⟨v1, rfl, hh1, J⟩ := hp
    show ab_go (d + 1) ab_M_L_law 653 lv [.int v1] h1 Q
    have r01 := lz_r0 hh1
    refine go_s (pc' := 654) (lv' := lv) (st' := []) (h' := h1) rfl rfl rfl ?_
    refine go_s (pc' := 655) (lv' := lv) (st' := [.ref 82]) (h' := h1) rfl rfl (ig_ald f2) ?_
    refine go_s (pc' := 656) (lv' := lv) (st' := [.ref 0, .ref 82]) (h' := h1) rfl rfl (ig_ald f0) ?_
    refine go_s (pc' := 657) (lv' := lv) (st' := [.int (Int32.ofNat i), .ref 0, .ref 82]) (h' := h1) rfl rfl (po_ild (nL := 0) f3) ?_
    refine go_s (pc' := 658) (lv' := lv) (st' := [.int (Int32.ofNat 1), .int (Int32.ofNat i), .ref 0, .ref 82]) (h' := h1) rfl rfl rfl ?_
    refine go_b2 (f := fun x y => x + y) (v := Int32.ofNat (i + 1)) rfl rfl (fun _ => rfl) (lz_add 1 (by omega)) ?_
    refine go_ial (v := xs (i + 1)) rfl r01 (mk_ix (by omega) (by omega)) (congrArg xs (mk_cl (by omega))) ?_
    refine go_s (pc' := 661) (lv' := lv) (st' := [.ref 0, .int (xs (i + 1)), .ref 82]) (h' := h1) rfl rfl (ig_ald f0) ?_
    refine go_s (pc' := 662) (lv' := lv) (st' := [.int (Int32.ofNat i), .ref 0, .int (xs (i + 1)), .ref 82]) (h' := h1) rfl rfl (po_ild (nL := 0) f3) ?_
    refine go_s (pc' := 663) (lv' := lv) (st' := [.int (Int32.ofNat 2), .int (Int32.ofNat i), .ref 0, .int (xs (i + 1)), .ref 82]) (h' := h1) rfl rfl rfl ?_
    refine go_b2 (f := fun x y => x + y) (v := Int32.ofNat (i + 2)) rfl rfl (fun _ => rfl) (lz_add 2 (by omega)) ?_
    refine go_ial (v := xs (i + 2)) rfl r01 (mk_ix (by omega) (by omega)) (congrArg xs (mk_cl (by omega))) ?_
    obtain ⟨ws2, rw2⟩ := lz_r82 hh1
    refine go_c (M' := ab_M_X10_would) (A := [.ref 82, .int (xs (i + 1)), .int (xs (i + 2))]) (rest := []) (lv0 := [(0, .ref 82), (1, .int (xs (i + 1))), (2, .int (xs (i + 2)))]) rfl rfl (ab_cal_v (As := [.int (xs (i + 1)), .int (xs (i + 2))]) rfl rfl rfl rw2 rfl rfl rfl rfl) rfl (k2 i v1 h1 hi hh1 J) (fun r h2 hp => ?_)
    obtain ⟨v2, rfl, hh2, a', b', hmd, hm2, R2, hv⟩ := hp
    show ab_go (d + 1) ab_M_L_law 668 lv [.int v2] h2 Q
    refine go_s (pc' := 669) (lv' := lv) (st' := []) (h' := h2) rfl rfl rfl ?_
    refine go_goto (off := 369) (tgt := 1038) rfl rfl ?_
    refine go_s (pc' := 1041) (lv' := ab_s1 3 (.int (Int32.ofNat i + Int32.ofInt 6)) lv) (st' := []) (h' := h2) rfl rfl (px_inc (by decide) f3) ?_
    have e6 : Int32.ofNat i + Int32.ofInt 6 = Int32.ofNat (i + 6) := lz_add 6 (by omega)
    rw [e6]
    have f0 := po_s1_other (v := .int (Int32.ofNat (i + 6))) (i := 3) f0 (by decide) (fun q => absurd q.2 (show ¬ (1 : Nat) = 2 by decide))
    have f1 := po_s1_other (v := .int (Int32.ofNat (i + 6))) (i := 3) f1 (by decide) (fun q => absurd q.2 (show ¬ (1 : Nat) = 2 by decide))
    have f2 := po_s1_other (v := .int (Int32.ofNat (i + 6))) (i := 3) f2 (by decide) (fun q => absurd q.2 (show ¬ (1 : Nat) = 2 by decide))
    have f3 : ab_lk (ab_s1 3 (.int (Int32.ofNat (i + 6))) lv) 3 = some (.int (Int32.ofNat (i + 6))) := mk_s1s
    refine go_goto (off := -1023) (tgt := 18) rfl rfl ?_
    exact IH a' b' β _ h2 hmd (lz_hd hL (lz_b1 hL g) hb hi f0 f1 f2 f3 hh2 hm2) sx_ag.rf R2
theorem lz_18 (hL : L ≤ 3072) {a b : Nat} (J : Nat → Int32 → ab_H → Prop) (k1 : ∀ (i : Nat) (h : ab_H), i + 6 ≤ L → sx_h sx_SP z L xs h → gm a b h → R h → ab_go d ab_M_X9_cure 0 [(0, .ref 1), (1, .int (xs (i + 1))), (2, .int (xs (i + 2)))] [] h (fun r h1 => ∃ v1, r = some (.int v1) ∧ sx_h sx_SP z L xs h1 ∧ J i v1 h1)) (k2 : ∀ (i : Nat) (v1 : Int32) (h1 : ab_H), i + 6 ≤ L → sx_h sx_SP z L xs h1 → J i v1 h1 → ab_go d ab_M_X10_cure 0 [(0, .ref 82), (1, .int (xs (i + 1))), (2, .int (xs (i + 2)))] [] h1 (fun r h2 => ∃ v2, r = some (.int v2) ∧ sx_h sx_SP z L xs h2 ∧ ∃ a' b', cs_md a' b' ∧ gm a' b' h2 ∧ R h2 ∧ True)) : cs_step z L (d + 1) xs Q R 672 a b := fun β lv h g R IH => by
    have hh := g.2.2.2.2.2.2
    obtain ⟨i, hb, hi, f0, f1, f2, f3, r0, hm⟩ := lz_at hL g
    refine go_s (pc' := 673) (lv' := lv) (st' := [.ref 1]) (h' := h) rfl rfl (ig_ald f1) ?_
    refine go_s (pc' := 674) (lv' := lv) (st' := [.ref 0, .ref 1]) (h' := h) rfl rfl (ig_ald f0) ?_
    refine go_s (pc' := 675) (lv' := lv) (st' := [.int (Int32.ofNat i), .ref 0, .ref 1]) (h' := h) rfl rfl (po_ild (nL := 0) f3) ?_
    refine go_s (pc' := 676) (lv' := lv) (st' := [.int (Int32.ofNat 1), .int (Int32.ofNat i), .ref 0, .ref 1]) (h' := h) rfl rfl rfl ?_
    refine go_b2 (f := fun x y => x + y) (v := Int32.ofNat (i + 1)) rfl rfl (fun _ => rfl) (lz_add 1 (by omega)) ?_
    refine go_ial (v := xs (i + 1)) rfl r0 (mk_ix (by omega) (by omega)) (congrArg xs (mk_cl (by omega))) ?_
    refine go_s (pc' := 679) (lv' := lv) (st' := [.ref 0, .int (xs (i + 1)), .ref 1]) (h' := h) rfl rfl (ig_ald f0) ?_
    refine go_s (pc' := 680) (lv' := lv) (st' := [.int (Int32.ofNat i), .ref 0, .int (xs (i + 1)), .ref 1]) (h' := h) rfl rfl (po_ild (nL := 0) f3) ?_
    refine go_s (pc' := 681) (lv' := lv) (st' := [.int (Int32.ofNat 2), .int (Int32.ofNat i), .ref 0, .int (xs (i + 1)), .ref 1]) (h' := h) rfl rfl rfl ?_
    refine go_b2 (f := fun x y => x + y) (v := Int32.ofNat (i + 2)) rfl rfl (fun _ => rfl) (lz_add 2 (by omega)) ?_
    refine go_ial (v := xs (i + 2)) rfl r0 (mk_ix (by omega) (by omega)) (congrArg xs (mk_cl (by omega))) ?_
    obtain ⟨ws1, rw1⟩ := lz_r1 hh
    refine go_c (M' := ab_M_X9_cure) (A := [.ref 1, .int (xs (i + 1)), .int (xs (i + 2))]) (rest := []) (lv0 := [(0, .ref 1), (1, .int (xs (i + 1))), (2, .int (xs (i + 2)))]) rfl rfl (ab_cal_v (As := [.int (xs (i + 1)), .int (xs (i + 2))]) rfl rfl rfl rw1 rfl rfl rfl rfl) rfl (k1 i h hi hh hm R) (fun r h1 hp => ?_)
    obtain ⟨v1, rfl, hh1, J⟩ := hp
    show ab_go (d + 1) ab_M_L_law 686 lv [.int v1] h1 Q
    have r01 := lz_r0 hh1
    refine go_s (pc' := 687) (lv' := lv) (st' := []) (h' := h1) rfl rfl rfl ?_
    refine go_s (pc' := 688) (lv' := lv) (st' := [.ref 82]) (h' := h1) rfl rfl (ig_ald f2) ?_
    refine go_s (pc' := 689) (lv' := lv) (st' := [.ref 0, .ref 82]) (h' := h1) rfl rfl (ig_ald f0) ?_
    refine go_s (pc' := 690) (lv' := lv) (st' := [.int (Int32.ofNat i), .ref 0, .ref 82]) (h' := h1) rfl rfl (po_ild (nL := 0) f3) ?_
    refine go_s (pc' := 691) (lv' := lv) (st' := [.int (Int32.ofNat 1), .int (Int32.ofNat i), .ref 0, .ref 82]) (h' := h1) rfl rfl rfl ?_
    refine go_b2 (f := fun x y => x + y) (v := Int32.ofNat (i + 1)) rfl rfl (fun _ => rfl) (lz_add 1 (by omega)) ?_
    refine go_ial (v := xs (i + 1)) rfl r01 (mk_ix (by omega) (by omega)) (congrArg xs (mk_cl (by omega))) ?_
    refine go_s (pc' := 694) (lv' := lv) (st' := [.ref 0, .int (xs (i + 1)), .ref 82]) (h' := h1) rfl rfl (ig_ald f0) ?_
    refine go_s (pc' := 695) (lv' := lv) (st' := [.int (Int32.ofNat i), .ref 0, .int (xs (i + 1)), .ref 82]) (h' := h1) rfl rfl (po_ild (nL := 0) f3) ?_
    refine go_s (pc' := 696) (lv' := lv) (st' := [.int (Int32.ofNat 2), .int (Int32.ofNat i), .ref 0, .int (xs (i + 1)), .ref 82]) (h' := h1) rfl rfl rfl ?_
    refine go_b2 (f := fun x y => x + y) (v := Int32.ofNat (i + 2)) rfl rfl (fun _ => rfl) (lz_add 2 (by omega)) ?_
    refine go_ial (v := xs (i + 2)) rfl r01 (mk_ix (by omega) (by omega)) (congrArg xs (mk_cl (by omega))) ?_
    obtain ⟨ws2, rw2⟩ := lz_r82 hh1
    refine go_c (M' := ab_M_X10_cure) (A := [.ref 82, .int (xs (i + 1)), .int (xs (i + 2))]) (rest := []) (lv0 := [(0, .ref 82), (1, .int (xs (i + 1))), (2, .int (xs (i + 2)))]) rfl rfl (ab_cal_v (As := [.int (xs (i + 1)), .int (xs (i + 2))]) rfl rfl rfl rw2 rfl rfl rfl rfl) rfl (k2 i v1 h1 hi hh1 J) (fun r h2 hp => ?_)
    obtain ⟨v2, rfl, hh2, a', b', hmd, hm2, R2, hv⟩ := hp
    show ab_go (d + 1) ab_M_L_law 701 lv [.int v2] h2 Q
    refine go_s (pc' := 702) (lv' := lv) (st' := []) (h' := h2) rfl rfl rfl ?_
    refine go_goto (off := 336) (tgt := 1038) rfl rfl ?_
    refine go_s (pc' := 1041) (lv' := ab_s1 3 (.int (Int32.ofNat i + Int32.ofInt 6)) lv) (st' := []) (h' := h2) rfl rfl (px_inc (by decide) f3) ?_
    have e6 : Int32.ofNat i + Int32.ofInt 6 = Int32.ofNat (i + 6) := lz_add 6 (by omega)
    rw [e6]
    have f0 := po_s1_other (v := .int (Int32.ofNat (i + 6))) (i := 3) f0 (by decide) (fun q => absurd q.2 (show ¬ (1 : Nat) = 2 by decide))
    have f1 := po_s1_other (v := .int (Int32.ofNat (i + 6))) (i := 3) f1 (by decide) (fun q => absurd q.2 (show ¬ (1 : Nat) = 2 by decide))
    have f2 := po_s1_other (v := .int (Int32.ofNat (i + 6))) (i := 3) f2 (by decide) (fun q => absurd q.2 (show ¬ (1 : Nat) = 2 by decide))
    have f3 : ab_lk (ab_s1 3 (.int (Int32.ofNat (i + 6))) lv) 3 = some (.int (Int32.ofNat (i + 6))) := mk_s1s
    refine go_goto (off := -1023) (tgt := 18) rfl rfl ?_
    exact IH a' b' β _ h2 hmd (lz_hd hL (lz_b1 hL g) hb hi f0 f1 f2 f3 hh2 hm2) sx_ag.rf R2
theorem lz_19 (hL : L ≤ 3072) {a b : Nat} (J : Nat → Int32 → ab_H → Prop) (k1 : ∀ (i : Nat) (h : ab_H), i + 6 ≤ L → sx_h sx_SP z L xs h → gm a b h → R h → ab_go d ab_M_X9_cures 0 [(0, .ref 1), (1, .int (xs (i + 1)))] [] h (fun r h1 => ∃ v1, r = some (.int v1) ∧ sx_h sx_SP z L xs h1 ∧ J i v1 h1)) (k2 : ∀ (i : Nat) (v1 : Int32) (h1 : ab_H), i + 6 ≤ L → sx_h sx_SP z L xs h1 → J i v1 h1 → ab_go d ab_M_X10_cures 0 [(0, .ref 82), (1, .int (xs (i + 1)))] [] h1 (fun r h2 => ∃ v2, r = some (.int v2) ∧ sx_h sx_SP z L xs h2 ∧ ∃ a' b', cs_md a' b' ∧ gm a' b' h2 ∧ R h2 ∧ True)) : cs_step z L (d + 1) xs Q R 705 a b := fun β lv h g R IH => by
    have hh := g.2.2.2.2.2.2
    obtain ⟨i, hb, hi, f0, f1, f2, f3, r0, hm⟩ := lz_at hL g
    refine go_s (pc' := 706) (lv' := lv) (st' := [.ref 1]) (h' := h) rfl rfl (ig_ald f1) ?_
    refine go_s (pc' := 707) (lv' := lv) (st' := [.ref 0, .ref 1]) (h' := h) rfl rfl (ig_ald f0) ?_
    refine go_s (pc' := 708) (lv' := lv) (st' := [.int (Int32.ofNat i), .ref 0, .ref 1]) (h' := h) rfl rfl (po_ild (nL := 0) f3) ?_
    refine go_s (pc' := 709) (lv' := lv) (st' := [.int (Int32.ofNat 1), .int (Int32.ofNat i), .ref 0, .ref 1]) (h' := h) rfl rfl rfl ?_
    refine go_b2 (f := fun x y => x + y) (v := Int32.ofNat (i + 1)) rfl rfl (fun _ => rfl) (lz_add 1 (by omega)) ?_
    refine go_ial (v := xs (i + 1)) rfl r0 (mk_ix (by omega) (by omega)) (congrArg xs (mk_cl (by omega))) ?_
    obtain ⟨ws1, rw1⟩ := lz_r1 hh
    refine go_c (M' := ab_M_X9_cures) (A := [.ref 1, .int (xs (i + 1))]) (rest := []) (lv0 := [(0, .ref 1), (1, .int (xs (i + 1)))]) rfl rfl (ab_cal_v (As := [.int (xs (i + 1))]) rfl rfl rfl rw1 rfl rfl rfl rfl) rfl (k1 i h hi hh hm R) (fun r h1 hp => ?_)
    obtain ⟨v1, rfl, hh1, J⟩ := hp
    show ab_go (d + 1) ab_M_L_law 714 lv [.int v1] h1 Q
    have r01 := lz_r0 hh1
    refine go_s (pc' := 715) (lv' := lv) (st' := []) (h' := h1) rfl rfl rfl ?_
    refine go_s (pc' := 716) (lv' := lv) (st' := [.ref 82]) (h' := h1) rfl rfl (ig_ald f2) ?_
    refine go_s (pc' := 717) (lv' := lv) (st' := [.ref 0, .ref 82]) (h' := h1) rfl rfl (ig_ald f0) ?_
    refine go_s (pc' := 718) (lv' := lv) (st' := [.int (Int32.ofNat i), .ref 0, .ref 82]) (h' := h1) rfl rfl (po_ild (nL := 0) f3) ?_
    refine go_s (pc' := 719) (lv' := lv) (st' := [.int (Int32.ofNat 1), .int (Int32.ofNat i), .ref 0, .ref 82]) (h' := h1) rfl rfl rfl ?_
    refine go_b2 (f := fun x y => x + y) (v := Int32.ofNat (i + 1)) rfl rfl (fun _ => rfl) (lz_add 1 (by omega)) ?_
    refine go_ial (v := xs (i + 1)) rfl r01 (mk_ix (by omega) (by omega)) (congrArg xs (mk_cl (by omega))) ?_
    obtain ⟨ws2, rw2⟩ := lz_r82 hh1
    refine go_c (M' := ab_M_X10_cures) (A := [.ref 82, .int (xs (i + 1))]) (rest := []) (lv0 := [(0, .ref 82), (1, .int (xs (i + 1)))]) rfl rfl (ab_cal_v (As := [.int (xs (i + 1))]) rfl rfl rfl rw2 rfl rfl rfl rfl) rfl (k2 i v1 h1 hi hh1 J) (fun r h2 hp => ?_)
    obtain ⟨v2, rfl, hh2, a', b', hmd, hm2, R2, hv⟩ := hp
    show ab_go (d + 1) ab_M_L_law 724 lv [.int v2] h2 Q
    refine go_s (pc' := 725) (lv' := lv) (st' := []) (h' := h2) rfl rfl rfl ?_
    refine go_goto (off := 313) (tgt := 1038) rfl rfl ?_
    refine go_s (pc' := 1041) (lv' := ab_s1 3 (.int (Int32.ofNat i + Int32.ofInt 6)) lv) (st' := []) (h' := h2) rfl rfl (px_inc (by decide) f3) ?_
    have e6 : Int32.ofNat i + Int32.ofInt 6 = Int32.ofNat (i + 6) := lz_add 6 (by omega)
    rw [e6]
    have f0 := po_s1_other (v := .int (Int32.ofNat (i + 6))) (i := 3) f0 (by decide) (fun q => absurd q.2 (show ¬ (1 : Nat) = 2 by decide))
    have f1 := po_s1_other (v := .int (Int32.ofNat (i + 6))) (i := 3) f1 (by decide) (fun q => absurd q.2 (show ¬ (1 : Nat) = 2 by decide))
    have f2 := po_s1_other (v := .int (Int32.ofNat (i + 6))) (i := 3) f2 (by decide) (fun q => absurd q.2 (show ¬ (1 : Nat) = 2 by decide))
    have f3 : ab_lk (ab_s1 3 (.int (Int32.ofNat (i + 6))) lv) 3 = some (.int (Int32.ofNat (i + 6))) := mk_s1s
    refine go_goto (off := -1023) (tgt := 18) rfl rfl ?_
    exact IH a' b' β _ h2 hmd (lz_hd hL (lz_b1 hL g) hb hi f0 f1 f2 f3 hh2 hm2) sx_ag.rf R2
theorem lz_20 (hL : L ≤ 3072) {a b : Nat} (J : Nat → Int32 → ab_H → Prop) (k1 : ∀ (i : Nat) (h : ab_H), i + 6 ≤ L → sx_h sx_SP z L xs h → gm a b h → R h → ab_go d ab_M_X9_delay 0 [(0, .ref 1), (1, .int (xs (i + 1))), (2, .int (xs (i + 2)))] [] h (fun r h1 => ∃ v1, r = some (.int v1) ∧ sx_h sx_SP z L xs h1 ∧ J i v1 h1)) (k2 : ∀ (i : Nat) (v1 : Int32) (h1 : ab_H), i + 6 ≤ L → sx_h sx_SP z L xs h1 → J i v1 h1 → ab_go d ab_M_X10_delay 0 [(0, .ref 82), (1, .int (xs (i + 1))), (2, .int (xs (i + 2)))] [] h1 (fun r h2 => ∃ v2, r = some (.int v2) ∧ sx_h sx_SP z L xs h2 ∧ ∃ a' b', cs_md a' b' ∧ gm a' b' h2 ∧ R h2 ∧ True)) : cs_step z L (d + 1) xs Q R 728 a b := fun β lv h g R IH => by
    have hh := g.2.2.2.2.2.2
    obtain ⟨i, hb, hi, f0, f1, f2, f3, r0, hm⟩ := lz_at hL g
    refine go_s (pc' := 729) (lv' := lv) (st' := [.ref 1]) (h' := h) rfl rfl (ig_ald f1) ?_
    refine go_s (pc' := 730) (lv' := lv) (st' := [.ref 0, .ref 1]) (h' := h) rfl rfl (ig_ald f0) ?_
    refine go_s (pc' := 731) (lv' := lv) (st' := [.int (Int32.ofNat i), .ref 0, .ref 1]) (h' := h) rfl rfl (po_ild (nL := 0) f3) ?_
    refine go_s (pc' := 732) (lv' := lv) (st' := [.int (Int32.ofNat 1), .int (Int32.ofNat i), .ref 0, .ref 1]) (h' := h) rfl rfl rfl ?_
    refine go_b2 (f := fun x y => x + y) (v := Int32.ofNat (i + 1)) rfl rfl (fun _ => rfl) (lz_add 1 (by omega)) ?_
    refine go_ial (v := xs (i + 1)) rfl r0 (mk_ix (by omega) (by omega)) (congrArg xs (mk_cl (by omega))) ?_
    refine go_s (pc' := 735) (lv' := lv) (st' := [.ref 0, .int (xs (i + 1)), .ref 1]) (h' := h) rfl rfl (ig_ald f0) ?_
    refine go_s (pc' := 736) (lv' := lv) (st' := [.int (Int32.ofNat i), .ref 0, .int (xs (i + 1)), .ref 1]) (h' := h) rfl rfl (po_ild (nL := 0) f3) ?_
    refine go_s (pc' := 737) (lv' := lv) (st' := [.int (Int32.ofNat 2), .int (Int32.ofNat i), .ref 0, .int (xs (i + 1)), .ref 1]) (h' := h) rfl rfl rfl ?_
    refine go_b2 (f := fun x y => x + y) (v := Int32.ofNat (i + 2)) rfl rfl (fun _ => rfl) (lz_add 2 (by omega)) ?_
    refine go_ial (v := xs (i + 2)) rfl r0 (mk_ix (by omega) (by omega)) (congrArg xs (mk_cl (by omega))) ?_
    obtain ⟨ws1, rw1⟩ := lz_r1 hh
    refine go_c (M' := ab_M_X9_delay) (A := [.ref 1, .int (xs (i + 1)), .int (xs (i + 2))]) (rest := []) (lv0 := [(0, .ref 1), (1, .int (xs (i + 1))), (2, .int (xs (i + 2)))]) rfl rfl (ab_cal_v (As := [.int (xs (i + 1)), .int (xs (i + 2))]) rfl rfl rfl rw1 rfl rfl rfl rfl) rfl (k1 i h hi hh hm R) (fun r h1 hp => ?_)
    obtain ⟨v1, rfl, hh1, J⟩ := hp
    show ab_go (d + 1) ab_M_L_law 742 lv [.int v1] h1 Q
    have r01 := lz_r0 hh1
    refine go_s (pc' := 743) (lv' := lv) (st' := []) (h' := h1) rfl rfl rfl ?_
    refine go_s (pc' := 744) (lv' := lv) (st' := [.ref 82]) (h' := h1) rfl rfl (ig_ald f2) ?_
    refine go_s (pc' := 745) (lv' := lv) (st' := [.ref 0, .ref 82]) (h' := h1) rfl rfl (ig_ald f0) ?_
    refine go_s (pc' := 746) (lv' := lv) (st' := [.int (Int32.ofNat i), .ref 0, .ref 82]) (h' := h1) rfl rfl (po_ild (nL := 0) f3) ?_
    refine go_s (pc' := 747) (lv' := lv) (st' := [.int (Int32.ofNat 1), .int (Int32.ofNat i), .ref 0, .ref 82]) (h' := h1) rfl rfl rfl ?_
    refine go_b2 (f := fun x y => x + y) (v := Int32.ofNat (i + 1)) rfl rfl (fun _ => rfl) (lz_add 1 (by omega)) ?_
    refine go_ial (v := xs (i + 1)) rfl r01 (mk_ix (by omega) (by omega)) (congrArg xs (mk_cl (by omega))) ?_
    refine go_s (pc' := 750) (lv' := lv) (st' := [.ref 0, .int (xs (i + 1)), .ref 82]) (h' := h1) rfl rfl (ig_ald f0) ?_
    refine go_s (pc' := 751) (lv' := lv) (st' := [.int (Int32.ofNat i), .ref 0, .int (xs (i + 1)), .ref 82]) (h' := h1) rfl rfl (po_ild (nL := 0) f3) ?_
    refine go_s (pc' := 752) (lv' := lv) (st' := [.int (Int32.ofNat 2), .int (Int32.ofNat i), .ref 0, .int (xs (i + 1)), .ref 82]) (h' := h1) rfl rfl rfl ?_
    refine go_b2 (f := fun x y => x + y) (v := Int32.ofNat (i + 2)) rfl rfl (fun _ => rfl) (lz_add 2 (by omega)) ?_
    refine go_ial (v := xs (i + 2)) rfl r01 (mk_ix (by omega) (by omega)) (congrArg xs (mk_cl (by omega))) ?_
    obtain ⟨ws2, rw2⟩ := lz_r82 hh1
    refine go_c (M' := ab_M_X10_delay) (A := [.ref 82, .int (xs (i + 1)), .int (xs (i + 2))]) (rest := []) (lv0 := [(0, .ref 82), (1, .int (xs (i + 1))), (2, .int (xs (i + 2)))]) rfl rfl (ab_cal_v (As := [.int (xs (i + 1)), .int (xs (i + 2))]) rfl rfl rfl rw2 rfl rfl rfl rfl) rfl (k2 i v1 h1 hi hh1 J) (fun r h2 hp => ?_)
    obtain ⟨v2, rfl, hh2, a', b', hmd, hm2, R2, hv⟩ := hp
    show ab_go (d + 1) ab_M_L_law 757 lv [.int v2] h2 Q
    refine go_s (pc' := 758) (lv' := lv) (st' := []) (h' := h2) rfl rfl rfl ?_
    refine go_goto (off := 280) (tgt := 1038) rfl rfl ?_
    refine go_s (pc' := 1041) (lv' := ab_s1 3 (.int (Int32.ofNat i + Int32.ofInt 6)) lv) (st' := []) (h' := h2) rfl rfl (px_inc (by decide) f3) ?_
    have e6 : Int32.ofNat i + Int32.ofInt 6 = Int32.ofNat (i + 6) := lz_add 6 (by omega)
    rw [e6]
    have f0 := po_s1_other (v := .int (Int32.ofNat (i + 6))) (i := 3) f0 (by decide) (fun q => absurd q.2 (show ¬ (1 : Nat) = 2 by decide))
    have f1 := po_s1_other (v := .int (Int32.ofNat (i + 6))) (i := 3) f1 (by decide) (fun q => absurd q.2 (show ¬ (1 : Nat) = 2 by decide))
    have f2 := po_s1_other (v := .int (Int32.ofNat (i + 6))) (i := 3) f2 (by decide) (fun q => absurd q.2 (show ¬ (1 : Nat) = 2 by decide))
    have f3 : ab_lk (ab_s1 3 (.int (Int32.ofNat (i + 6))) lv) 3 = some (.int (Int32.ofNat (i + 6))) := mk_s1s
    refine go_goto (off := -1023) (tgt := 18) rfl rfl ?_
    exact IH a' b' β _ h2 hmd (lz_hd hL (lz_b1 hL g) hb hi f0 f1 f2 f3 hh2 hm2) sx_ag.rf R2
theorem lz_23 (hL : L ≤ 3072) {a b : Nat} (J : Nat → Int32 → ab_H → Prop) (k1 : ∀ (i : Nat) (h : ab_H), i + 6 ≤ L → sx_h sx_SP z L xs h → gm a b h → R h → ab_go d ab_M_X9_come 0 [(0, .ref 1), (1, .int (xs (i + 1)))] [] h (fun r h1 => ∃ v1, r = some (.int v1) ∧ sx_h sx_SP z L xs h1 ∧ J i v1 h1)) (k2 : ∀ (i : Nat) (v1 : Int32) (h1 : ab_H), i + 6 ≤ L → sx_h sx_SP z L xs h1 → J i v1 h1 → ab_go d ab_M_X10_come 0 [(0, .ref 82), (1, .int (xs (i + 1)))] [] h1 (fun r h2 => ∃ v2, r = some (.int v2) ∧ sx_h sx_SP z L xs h2 ∧ ∃ a' b', cs_md a' b' ∧ gm a' b' h2 ∧ R h2 ∧ True)) : cs_step z L (d + 1) xs Q R 817 a b := fun β lv h g R IH => by
    have hh := g.2.2.2.2.2.2
    obtain ⟨i, hb, hi, f0, f1, f2, f3, r0, hm⟩ := lz_at hL g
    refine go_s (pc' := 818) (lv' := lv) (st' := [.ref 1]) (h' := h) rfl rfl (ig_ald f1) ?_
    refine go_s (pc' := 819) (lv' := lv) (st' := [.ref 0, .ref 1]) (h' := h) rfl rfl (ig_ald f0) ?_
    refine go_s (pc' := 820) (lv' := lv) (st' := [.int (Int32.ofNat i), .ref 0, .ref 1]) (h' := h) rfl rfl (po_ild (nL := 0) f3) ?_
    refine go_s (pc' := 821) (lv' := lv) (st' := [.int (Int32.ofNat 1), .int (Int32.ofNat i), .ref 0, .ref 1]) (h' := h) rfl rfl rfl ?_
    refine go_b2 (f := fun x y => x + y) (v := Int32.ofNat (i + 1)) rfl rfl (fun _ => rfl) (lz_add 1 (by omega)) ?_
    refine go_ial (v := xs (i + 1)) rfl r0 (mk_ix (by omega) (by omega)) (congrArg xs (mk_cl (by omega))) ?_
    obtain ⟨ws1, rw1⟩ := lz_r1 hh
    refine go_c (M' := ab_M_X9_come) (A := [.ref 1, .int (xs (i + 1))]) (rest := []) (lv0 := [(0, .ref 1), (1, .int (xs (i + 1)))]) rfl rfl (ab_cal_v (As := [.int (xs (i + 1))]) rfl rfl rfl rw1 rfl rfl rfl rfl) rfl (k1 i h hi hh hm R) (fun r h1 hp => ?_)
    obtain ⟨v1, rfl, hh1, J⟩ := hp
    show ab_go (d + 1) ab_M_L_law 826 lv [.int v1] h1 Q
    have r01 := lz_r0 hh1
    refine go_s (pc' := 827) (lv' := lv) (st' := []) (h' := h1) rfl rfl rfl ?_
    refine go_s (pc' := 828) (lv' := lv) (st' := [.ref 82]) (h' := h1) rfl rfl (ig_ald f2) ?_
    refine go_s (pc' := 829) (lv' := lv) (st' := [.ref 0, .ref 82]) (h' := h1) rfl rfl (ig_ald f0) ?_
    refine go_s (pc' := 830) (lv' := lv) (st' := [.int (Int32.ofNat i), .ref 0, .ref 82]) (h' := h1) rfl rfl (po_ild (nL := 0) f3) ?_
    refine go_s (pc' := 831) (lv' := lv) (st' := [.int (Int32.ofNat 1), .int (Int32.ofNat i), .ref 0, .ref 82]) (h' := h1) rfl rfl rfl ?_
    refine go_b2 (f := fun x y => x + y) (v := Int32.ofNat (i + 1)) rfl rfl (fun _ => rfl) (lz_add 1 (by omega)) ?_
    refine go_ial (v := xs (i + 1)) rfl r01 (mk_ix (by omega) (by omega)) (congrArg xs (mk_cl (by omega))) ?_
    obtain ⟨ws2, rw2⟩ := lz_r82 hh1
    refine go_c (M' := ab_M_X10_come) (A := [.ref 82, .int (xs (i + 1))]) (rest := []) (lv0 := [(0, .ref 82), (1, .int (xs (i + 1)))]) rfl rfl (ab_cal_v (As := [.int (xs (i + 1))]) rfl rfl rfl rw2 rfl rfl rfl rfl) rfl (k2 i v1 h1 hi hh1 J) (fun r h2 hp => ?_)
    obtain ⟨v2, rfl, hh2, a', b', hmd, hm2, R2, hv⟩ := hp
    show ab_go (d + 1) ab_M_L_law 836 lv [.int v2] h2 Q
    refine go_s (pc' := 837) (lv' := lv) (st' := []) (h' := h2) rfl rfl rfl ?_
    refine go_goto (off := 201) (tgt := 1038) rfl rfl ?_
    refine go_s (pc' := 1041) (lv' := ab_s1 3 (.int (Int32.ofNat i + Int32.ofInt 6)) lv) (st' := []) (h' := h2) rfl rfl (px_inc (by decide) f3) ?_
    have e6 : Int32.ofNat i + Int32.ofInt 6 = Int32.ofNat (i + 6) := lz_add 6 (by omega)
    rw [e6]
    have f0 := po_s1_other (v := .int (Int32.ofNat (i + 6))) (i := 3) f0 (by decide) (fun q => absurd q.2 (show ¬ (1 : Nat) = 2 by decide))
    have f1 := po_s1_other (v := .int (Int32.ofNat (i + 6))) (i := 3) f1 (by decide) (fun q => absurd q.2 (show ¬ (1 : Nat) = 2 by decide))
    have f2 := po_s1_other (v := .int (Int32.ofNat (i + 6))) (i := 3) f2 (by decide) (fun q => absurd q.2 (show ¬ (1 : Nat) = 2 by decide))
    have f3 : ab_lk (ab_s1 3 (.int (Int32.ofNat (i + 6))) lv) 3 = some (.int (Int32.ofNat (i + 6))) := mk_s1s
    refine go_goto (off := -1023) (tgt := 18) rfl rfl ?_
    exact IH a' b' β _ h2 hmd (lz_hd hL (lz_b1 hL g) hb hi f0 f1 f2 f3 hh2 hm2) sx_ag.rf R2
theorem lz_24 (hL : L ≤ 3072) {a b : Nat} (J : Nat → Int32 → ab_H → Prop) (k1 : ∀ (i : Nat) (h : ab_H), i + 6 ≤ L → sx_h sx_SP z L xs h → gm a b h → R h → ab_go d ab_M_X9_undo 0 [(0, .ref 1)] [] h (fun r h1 => ∃ v1, r = some (.int v1) ∧ sx_h sx_SP z L xs h1 ∧ J i v1 h1)) (k2 : ∀ (i : Nat) (v1 : Int32) (h1 : ab_H), i + 6 ≤ L → sx_h sx_SP z L xs h1 → J i v1 h1 → ab_go d ab_M_X10_undo 0 [(0, .ref 82)] [] h1 (fun r h2 => ∃ v2, r = some (.int v2) ∧ sx_h sx_SP z L xs h2 ∧ ∃ a' b', cs_md a' b' ∧ gm a' b' h2 ∧ R h2 ∧ True)) : cs_step z L (d + 1) xs Q R 840 a b := fun β lv h g R IH => by
    have hh := g.2.2.2.2.2.2
    obtain ⟨i, hb, hi, f0, f1, f2, f3, r0, hm⟩ := lz_at hL g
    refine go_s (pc' := 841) (lv' := lv) (st' := [.ref 1]) (h' := h) rfl rfl (ig_ald f1) ?_
    obtain ⟨ws1, rw1⟩ := lz_r1 hh
    refine go_c (M' := ab_M_X9_undo) (A := [.ref 1]) (rest := []) (lv0 := [(0, .ref 1)]) rfl rfl (ab_cal_v (As := []) rfl rfl rfl rw1 rfl rfl rfl rfl) rfl (k1 i h hi hh hm R) (fun r h1 hp => ?_)
    obtain ⟨v1, rfl, hh1, J⟩ := hp
    show ab_go (d + 1) ab_M_L_law 844 lv [.int v1] h1 Q
    have r01 := lz_r0 hh1
    refine go_s (pc' := 845) (lv' := lv) (st' := []) (h' := h1) rfl rfl rfl ?_
    refine go_s (pc' := 846) (lv' := lv) (st' := [.ref 82]) (h' := h1) rfl rfl (ig_ald f2) ?_
    obtain ⟨ws2, rw2⟩ := lz_r82 hh1
    refine go_c (M' := ab_M_X10_undo) (A := [.ref 82]) (rest := []) (lv0 := [(0, .ref 82)]) rfl rfl (ab_cal_v (As := []) rfl rfl rfl rw2 rfl rfl rfl rfl) rfl (k2 i v1 h1 hi hh1 J) (fun r h2 hp => ?_)
    obtain ⟨v2, rfl, hh2, a', b', hmd, hm2, R2, hv⟩ := hp
    show ab_go (d + 1) ab_M_L_law 849 lv [.int v2] h2 Q
    refine go_s (pc' := 850) (lv' := lv) (st' := []) (h' := h2) rfl rfl rfl ?_
    refine go_goto (off := 188) (tgt := 1038) rfl rfl ?_
    refine go_s (pc' := 1041) (lv' := ab_s1 3 (.int (Int32.ofNat i + Int32.ofInt 6)) lv) (st' := []) (h' := h2) rfl rfl (px_inc (by decide) f3) ?_
    have e6 : Int32.ofNat i + Int32.ofInt 6 = Int32.ofNat (i + 6) := lz_add 6 (by omega)
    rw [e6]
    have f0 := po_s1_other (v := .int (Int32.ofNat (i + 6))) (i := 3) f0 (by decide) (fun q => absurd q.2 (show ¬ (1 : Nat) = 2 by decide))
    have f1 := po_s1_other (v := .int (Int32.ofNat (i + 6))) (i := 3) f1 (by decide) (fun q => absurd q.2 (show ¬ (1 : Nat) = 2 by decide))
    have f2 := po_s1_other (v := .int (Int32.ofNat (i + 6))) (i := 3) f2 (by decide) (fun q => absurd q.2 (show ¬ (1 : Nat) = 2 by decide))
    have f3 : ab_lk (ab_s1 3 (.int (Int32.ofNat (i + 6))) lv) 3 = some (.int (Int32.ofNat (i + 6))) := mk_s1s
    refine go_goto (off := -1023) (tgt := 18) rfl rfl ?_
    exact IH a' b' β _ h2 hmd (lz_hd hL (lz_b1 hL g) hb hi f0 f1 f2 f3 hh2 hm2) sx_ag.rf R2
theorem lz_26 (hL : L ≤ 3072) {a b : Nat} (J : Nat → Int32 → ab_H → Prop) (k1 : ∀ (i : Nat) (h : ab_H), i + 6 ≤ L → sx_h sx_SP z L xs h → gm a b h → R h → ab_go d ab_M_X9_sheet 0 [(0, .ref 1), (1, .int (xs (i + 1))), (2, .int (xs (i + 2))), (3, .int (xs (i + 3)))] [] h (fun r h1 => ∃ v1, r = some (.int v1) ∧ sx_h sx_SP z L xs h1 ∧ J i v1 h1)) (k2 : ∀ (i : Nat) (v1 : Int32) (h1 : ab_H), i + 6 ≤ L → sx_h sx_SP z L xs h1 → J i v1 h1 → ab_go d ab_M_X10_sheet 0 [(0, .ref 82), (1, .int (xs (i + 1))), (2, .int (xs (i + 2))), (3, .int (xs (i + 3)))] [] h1 (fun r h2 => ∃ v2, r = some (.int v2) ∧ sx_h sx_SP z L xs h2 ∧ ∃ a' b', cs_md a' b' ∧ gm a' b' h2 ∧ R h2 ∧ True)) : cs_step z L (d + 1) xs Q R 876 a b := fun β lv h g R IH => by
    have hh := g.2.2.2.2.2.2
    obtain ⟨i, hb, hi, f0, f1, f2, f3, r0, hm⟩ := lz_at hL g
    refine go_s (pc' := 877) (lv' := lv) (st' := [.ref 1]) (h' := h) rfl rfl (ig_ald f1) ?_
    refine go_s (pc' := 878) (lv' := lv) (st' := [.ref 0, .ref 1]) (h' := h) rfl rfl (ig_ald f0) ?_
    refine go_s (pc' := 879) (lv' := lv) (st' := [.int (Int32.ofNat i), .ref 0, .ref 1]) (h' := h) rfl rfl (po_ild (nL := 0) f3) ?_
    refine go_s (pc' := 880) (lv' := lv) (st' := [.int (Int32.ofNat 1), .int (Int32.ofNat i), .ref 0, .ref 1]) (h' := h) rfl rfl rfl ?_
    refine go_b2 (f := fun x y => x + y) (v := Int32.ofNat (i + 1)) rfl rfl (fun _ => rfl) (lz_add 1 (by omega)) ?_
    refine go_ial (v := xs (i + 1)) rfl r0 (mk_ix (by omega) (by omega)) (congrArg xs (mk_cl (by omega))) ?_
    refine go_s (pc' := 883) (lv' := lv) (st' := [.ref 0, .int (xs (i + 1)), .ref 1]) (h' := h) rfl rfl (ig_ald f0) ?_
    refine go_s (pc' := 884) (lv' := lv) (st' := [.int (Int32.ofNat i), .ref 0, .int (xs (i + 1)), .ref 1]) (h' := h) rfl rfl (po_ild (nL := 0) f3) ?_
    refine go_s (pc' := 885) (lv' := lv) (st' := [.int (Int32.ofNat 2), .int (Int32.ofNat i), .ref 0, .int (xs (i + 1)), .ref 1]) (h' := h) rfl rfl rfl ?_
    refine go_b2 (f := fun x y => x + y) (v := Int32.ofNat (i + 2)) rfl rfl (fun _ => rfl) (lz_add 2 (by omega)) ?_
    refine go_ial (v := xs (i + 2)) rfl r0 (mk_ix (by omega) (by omega)) (congrArg xs (mk_cl (by omega))) ?_
    refine go_s (pc' := 888) (lv' := lv) (st' := [.ref 0, .int (xs (i + 2)), .int (xs (i + 1)), .ref 1]) (h' := h) rfl rfl (ig_ald f0) ?_
    refine go_s (pc' := 889) (lv' := lv) (st' := [.int (Int32.ofNat i), .ref 0, .int (xs (i + 2)), .int (xs (i + 1)), .ref 1]) (h' := h) rfl rfl (po_ild (nL := 0) f3) ?_
    refine go_s (pc' := 890) (lv' := lv) (st' := [.int (Int32.ofNat 3), .int (Int32.ofNat i), .ref 0, .int (xs (i + 2)), .int (xs (i + 1)), .ref 1]) (h' := h) rfl rfl rfl ?_
    refine go_b2 (f := fun x y => x + y) (v := Int32.ofNat (i + 3)) rfl rfl (fun _ => rfl) (lz_add 3 (by omega)) ?_
    refine go_ial (v := xs (i + 3)) rfl r0 (mk_ix (by omega) (by omega)) (congrArg xs (mk_cl (by omega))) ?_
    obtain ⟨ws1, rw1⟩ := lz_r1 hh
    refine go_c (M' := ab_M_X9_sheet) (A := [.ref 1, .int (xs (i + 1)), .int (xs (i + 2)), .int (xs (i + 3))]) (rest := []) (lv0 := [(0, .ref 1), (1, .int (xs (i + 1))), (2, .int (xs (i + 2))), (3, .int (xs (i + 3)))]) rfl rfl (ab_cal_v (As := [.int (xs (i + 1)), .int (xs (i + 2)), .int (xs (i + 3))]) rfl rfl rfl rw1 rfl rfl rfl rfl) rfl (k1 i h hi hh hm R) (fun r h1 hp => ?_)
    obtain ⟨v1, rfl, hh1, J⟩ := hp
    show ab_go (d + 1) ab_M_L_law 895 lv [.int v1] h1 Q
    have r01 := lz_r0 hh1
    refine go_s (pc' := 896) (lv' := lv) (st' := []) (h' := h1) rfl rfl rfl ?_
    refine go_s (pc' := 897) (lv' := lv) (st' := [.ref 82]) (h' := h1) rfl rfl (ig_ald f2) ?_
    refine go_s (pc' := 898) (lv' := lv) (st' := [.ref 0, .ref 82]) (h' := h1) rfl rfl (ig_ald f0) ?_
    refine go_s (pc' := 899) (lv' := lv) (st' := [.int (Int32.ofNat i), .ref 0, .ref 82]) (h' := h1) rfl rfl (po_ild (nL := 0) f3) ?_
    refine go_s (pc' := 900) (lv' := lv) (st' := [.int (Int32.ofNat 1), .int (Int32.ofNat i), .ref 0, .ref 82]) (h' := h1) rfl rfl rfl ?_
    refine go_b2 (f := fun x y => x + y) (v := Int32.ofNat (i + 1)) rfl rfl (fun _ => rfl) (lz_add 1 (by omega)) ?_
    refine go_ial (v := xs (i + 1)) rfl r01 (mk_ix (by omega) (by omega)) (congrArg xs (mk_cl (by omega))) ?_
    refine go_s (pc' := 903) (lv' := lv) (st' := [.ref 0, .int (xs (i + 1)), .ref 82]) (h' := h1) rfl rfl (ig_ald f0) ?_
    refine go_s (pc' := 904) (lv' := lv) (st' := [.int (Int32.ofNat i), .ref 0, .int (xs (i + 1)), .ref 82]) (h' := h1) rfl rfl (po_ild (nL := 0) f3) ?_
    refine go_s (pc' := 905) (lv' := lv) (st' := [.int (Int32.ofNat 2), .int (Int32.ofNat i), .ref 0, .int (xs (i + 1)), .ref 82]) (h' := h1) rfl rfl rfl ?_
    refine go_b2 (f := fun x y => x + y) (v := Int32.ofNat (i + 2)) rfl rfl (fun _ => rfl) (lz_add 2 (by omega)) ?_
    refine go_ial (v := xs (i + 2)) rfl r01 (mk_ix (by omega) (by omega)) (congrArg xs (mk_cl (by omega))) ?_
    refine go_s (pc' := 908) (lv' := lv) (st' := [.ref 0, .int (xs (i + 2)), .int (xs (i + 1)), .ref 82]) (h' := h1) rfl rfl (ig_ald f0) ?_
    refine go_s (pc' := 909) (lv' := lv) (st' := [.int (Int32.ofNat i), .ref 0, .int (xs (i + 2)), .int (xs (i + 1)), .ref 82]) (h' := h1) rfl rfl (po_ild (nL := 0) f3) ?_
    refine go_s (pc' := 910) (lv' := lv) (st' := [.int (Int32.ofNat 3), .int (Int32.ofNat i), .ref 0, .int (xs (i + 2)), .int (xs (i + 1)), .ref 82]) (h' := h1) rfl rfl rfl ?_
    refine go_b2 (f := fun x y => x + y) (v := Int32.ofNat (i + 3)) rfl rfl (fun _ => rfl) (lz_add 3 (by omega)) ?_
    refine go_ial (v := xs (i + 3)) rfl r01 (mk_ix (by omega) (by omega)) (congrArg xs (mk_cl (by omega))) ?_
    obtain ⟨ws2, rw2⟩ := lz_r82 hh1
    refine go_c (M' := ab_M_X10_sheet) (A := [.ref 82, .int (xs (i + 1)), .int (xs (i + 2)), .int (xs (i + 3))]) (rest := []) (lv0 := [(0, .ref 82), (1, .int (xs (i + 1))), (2, .int (xs (i + 2))), (3, .int (xs (i + 3)))]) rfl rfl (ab_cal_v (As := [.int (xs (i + 1)), .int (xs (i + 2)), .int (xs (i + 3))]) rfl rfl rfl rw2 rfl rfl rfl rfl) rfl (k2 i v1 h1 hi hh1 J) (fun r h2 hp => ?_)
    obtain ⟨v2, rfl, hh2, a', b', hmd, hm2, R2, hv⟩ := hp
    show ab_go (d + 1) ab_M_L_law 915 lv [.int v2] h2 Q
    refine go_s (pc' := 916) (lv' := lv) (st' := []) (h' := h2) rfl rfl rfl ?_
    refine go_goto (off := 122) (tgt := 1038) rfl rfl ?_
    refine go_s (pc' := 1041) (lv' := ab_s1 3 (.int (Int32.ofNat i + Int32.ofInt 6)) lv) (st' := []) (h' := h2) rfl rfl (px_inc (by decide) f3) ?_
    have e6 : Int32.ofNat i + Int32.ofInt 6 = Int32.ofNat (i + 6) := lz_add 6 (by omega)
    rw [e6]
    have f0 := po_s1_other (v := .int (Int32.ofNat (i + 6))) (i := 3) f0 (by decide) (fun q => absurd q.2 (show ¬ (1 : Nat) = 2 by decide))
    have f1 := po_s1_other (v := .int (Int32.ofNat (i + 6))) (i := 3) f1 (by decide) (fun q => absurd q.2 (show ¬ (1 : Nat) = 2 by decide))
    have f2 := po_s1_other (v := .int (Int32.ofNat (i + 6))) (i := 3) f2 (by decide) (fun q => absurd q.2 (show ¬ (1 : Nat) = 2 by decide))
    have f3 : ab_lk (ab_s1 3 (.int (Int32.ofNat (i + 6))) lv) 3 = some (.int (Int32.ofNat (i + 6))) := mk_s1s
    refine go_goto (off := -1023) (tgt := 18) rfl rfl ?_
    exact IH a' b' β _ h2 hmd (lz_hd hL (lz_b1 hL g) hb hi f0 f1 f2 f3 hh2 hm2) sx_ag.rf R2
theorem lz_27 (hL : L ≤ 3072) {a b : Nat} (J : Nat → Int32 → ab_H → Prop) (k1 : ∀ (i : Nat) (h : ab_H), i + 6 ≤ L → sx_h sx_SP z L xs h → gm a b h → R h → ab_go d ab_M_X9_lay 0 [(0, .ref 1), (1, .int (xs (i + 1))), (2, .int (xs (i + 2))), (3, .int (xs (i + 3)))] [] h (fun r h1 => ∃ v1, r = some (.int v1) ∧ sx_h sx_SP z L xs h1 ∧ J i v1 h1)) (k2 : ∀ (i : Nat) (v1 : Int32) (h1 : ab_H), i + 6 ≤ L → sx_h sx_SP z L xs h1 → J i v1 h1 → ab_go d ab_M_X10_lay 0 [(0, .ref 82), (1, .int (xs (i + 1))), (2, .int (xs (i + 2))), (3, .int (xs (i + 3)))] [] h1 (fun r h2 => ∃ v2, r = some (.int v2) ∧ sx_h sx_SP z L xs h2 ∧ ∃ a' b', cs_md a' b' ∧ gm a' b' h2 ∧ R h2 ∧ True)) : cs_step z L (d + 1) xs Q R 919 a b := fun β lv h g R IH => by
    have hh := g.2.2.2.2.2.2
    obtain ⟨i, hb, hi, f0, f1, f2, f3, r0, hm⟩ := lz_at hL g
    refine go_s (pc' := 920) (lv' := lv) (st' := [.ref 1]) (h' := h) rfl rfl (ig_ald f1) ?_
    refine go_s (pc' := 921) (lv' := lv) (st' := [.ref 0, .ref 1]) (h' := h) rfl rfl (ig_ald f0) ?_
    refine go_s (pc' := 922) (lv' := lv) (st' := [.int (Int32.ofNat i), .ref 0, .ref 1]) (h' := h) rfl rfl (po_ild (nL := 0) f3) ?_
    refine go_s (pc' := 923) (lv' := lv) (st' := [.int (Int32.ofNat 1), .int (Int32.ofNat i), .ref 0, .ref 1]) (h' := h) rfl rfl rfl ?_
    refine go_b2 (f := fun x y => x + y) (v := Int32.ofNat (i + 1)) rfl rfl (fun _ => rfl) (lz_add 1 (by omega)) ?_
    refine go_ial (v := xs (i + 1)) rfl r0 (mk_ix (by omega) (by omega)) (congrArg xs (mk_cl (by omega))) ?_
    refine go_s (pc' := 926) (lv' := lv) (st' := [.ref 0, .int (xs (i + 1)), .ref 1]) (h' := h) rfl rfl (ig_ald f0) ?_
    refine go_s (pc' := 927) (lv' := lv) (st' := [.int (Int32.ofNat i), .ref 0, .int (xs (i + 1)), .ref 1]) (h' := h) rfl rfl (po_ild (nL := 0) f3) ?_
    refine go_s (pc' := 928) (lv' := lv) (st' := [.int (Int32.ofNat 2), .int (Int32.ofNat i), .ref 0, .int (xs (i + 1)), .ref 1]) (h' := h) rfl rfl rfl ?_
    refine go_b2 (f := fun x y => x + y) (v := Int32.ofNat (i + 2)) rfl rfl (fun _ => rfl) (lz_add 2 (by omega)) ?_
    refine go_ial (v := xs (i + 2)) rfl r0 (mk_ix (by omega) (by omega)) (congrArg xs (mk_cl (by omega))) ?_
    refine go_s (pc' := 931) (lv' := lv) (st' := [.ref 0, .int (xs (i + 2)), .int (xs (i + 1)), .ref 1]) (h' := h) rfl rfl (ig_ald f0) ?_
    refine go_s (pc' := 932) (lv' := lv) (st' := [.int (Int32.ofNat i), .ref 0, .int (xs (i + 2)), .int (xs (i + 1)), .ref 1]) (h' := h) rfl rfl (po_ild (nL := 0) f3) ?_
    refine go_s (pc' := 933) (lv' := lv) (st' := [.int (Int32.ofNat 3), .int (Int32.ofNat i), .ref 0, .int (xs (i + 2)), .int (xs (i + 1)), .ref 1]) (h' := h) rfl rfl rfl ?_
    refine go_b2 (f := fun x y => x + y) (v := Int32.ofNat (i + 3)) rfl rfl (fun _ => rfl) (lz_add 3 (by omega)) ?_
    refine go_ial (v := xs (i + 3)) rfl r0 (mk_ix (by omega) (by omega)) (congrArg xs (mk_cl (by omega))) ?_
    obtain ⟨ws1, rw1⟩ := lz_r1 hh
    refine go_c (M' := ab_M_X9_lay) (A := [.ref 1, .int (xs (i + 1)), .int (xs (i + 2)), .int (xs (i + 3))]) (rest := []) (lv0 := [(0, .ref 1), (1, .int (xs (i + 1))), (2, .int (xs (i + 2))), (3, .int (xs (i + 3)))]) rfl rfl (ab_cal_v (As := [.int (xs (i + 1)), .int (xs (i + 2)), .int (xs (i + 3))]) rfl rfl rfl rw1 rfl rfl rfl rfl) rfl (k1 i h hi hh hm R) (fun r h1 hp => ?_)
    obtain ⟨v1, rfl, hh1, J⟩ := hp
    show ab_go (d + 1) ab_M_L_law 938 lv [.int v1] h1 Q
    have r01 := lz_r0 hh1
    refine go_s (pc' := 939) (lv' := lv) (st' := []) (h' := h1) rfl rfl rfl ?_
    refine go_s (pc' := 940) (lv' := lv) (st' := [.ref 82]) (h' := h1) rfl rfl (ig_ald f2) ?_
    refine go_s (pc' := 941) (lv' := lv) (st' := [.ref 0, .ref 82]) (h' := h1) rfl rfl (ig_ald f0) ?_
    refine go_s (pc' := 942) (lv' := lv) (st' := [.int (Int32.ofNat i), .ref 0, .ref 82]) (h' := h1) rfl rfl (po_ild (nL := 0) f3) ?_
    refine go_s (pc' := 943) (lv' := lv) (st' := [.int (Int32.ofNat 1), .int (Int32.ofNat i), .ref 0, .ref 82]) (h' := h1) rfl rfl rfl ?_
    refine go_b2 (f := fun x y => x + y) (v := Int32.ofNat (i + 1)) rfl rfl (fun _ => rfl) (lz_add 1 (by omega)) ?_
    refine go_ial (v := xs (i + 1)) rfl r01 (mk_ix (by omega) (by omega)) (congrArg xs (mk_cl (by omega))) ?_
    refine go_s (pc' := 946) (lv' := lv) (st' := [.ref 0, .int (xs (i + 1)), .ref 82]) (h' := h1) rfl rfl (ig_ald f0) ?_
    refine go_s (pc' := 947) (lv' := lv) (st' := [.int (Int32.ofNat i), .ref 0, .int (xs (i + 1)), .ref 82]) (h' := h1) rfl rfl (po_ild (nL := 0) f3) ?_
    refine go_s (pc' := 948) (lv' := lv) (st' := [.int (Int32.ofNat 2), .int (Int32.ofNat i), .ref 0, .int (xs (i + 1)), .ref 82]) (h' := h1) rfl rfl rfl ?_
    refine go_b2 (f := fun x y => x + y) (v := Int32.ofNat (i + 2)) rfl rfl (fun _ => rfl) (lz_add 2 (by omega)) ?_
    refine go_ial (v := xs (i + 2)) rfl r01 (mk_ix (by omega) (by omega)) (congrArg xs (mk_cl (by omega))) ?_
    refine go_s (pc' := 951) (lv' := lv) (st' := [.ref 0, .int (xs (i + 2)), .int (xs (i + 1)), .ref 82]) (h' := h1) rfl rfl (ig_ald f0) ?_
    refine go_s (pc' := 952) (lv' := lv) (st' := [.int (Int32.ofNat i), .ref 0, .int (xs (i + 2)), .int (xs (i + 1)), .ref 82]) (h' := h1) rfl rfl (po_ild (nL := 0) f3) ?_
    refine go_s (pc' := 953) (lv' := lv) (st' := [.int (Int32.ofNat 3), .int (Int32.ofNat i), .ref 0, .int (xs (i + 2)), .int (xs (i + 1)), .ref 82]) (h' := h1) rfl rfl rfl ?_
    refine go_b2 (f := fun x y => x + y) (v := Int32.ofNat (i + 3)) rfl rfl (fun _ => rfl) (lz_add 3 (by omega)) ?_
    refine go_ial (v := xs (i + 3)) rfl r01 (mk_ix (by omega) (by omega)) (congrArg xs (mk_cl (by omega))) ?_
    obtain ⟨ws2, rw2⟩ := lz_r82 hh1
    refine go_c (M' := ab_M_X10_lay) (A := [.ref 82, .int (xs (i + 1)), .int (xs (i + 2)), .int (xs (i + 3))]) (rest := []) (lv0 := [(0, .ref 82), (1, .int (xs (i + 1))), (2, .int (xs (i + 2))), (3, .int (xs (i + 3)))]) rfl rfl (ab_cal_v (As := [.int (xs (i + 1)), .int (xs (i + 2)), .int (xs (i + 3))]) rfl rfl rfl rw2 rfl rfl rfl rfl) rfl (k2 i v1 h1 hi hh1 J) (fun r h2 hp => ?_)
    obtain ⟨v2, rfl, hh2, a', b', hmd, hm2, R2, hv⟩ := hp
    show ab_go (d + 1) ab_M_L_law 958 lv [.int v2] h2 Q
    refine go_s (pc' := 959) (lv' := lv) (st' := []) (h' := h2) rfl rfl rfl ?_
    refine go_goto (off := 79) (tgt := 1038) rfl rfl ?_
    refine go_s (pc' := 1041) (lv' := ab_s1 3 (.int (Int32.ofNat i + Int32.ofInt 6)) lv) (st' := []) (h' := h2) rfl rfl (px_inc (by decide) f3) ?_
    have e6 : Int32.ofNat i + Int32.ofInt 6 = Int32.ofNat (i + 6) := lz_add 6 (by omega)
    rw [e6]
    have f0 := po_s1_other (v := .int (Int32.ofNat (i + 6))) (i := 3) f0 (by decide) (fun q => absurd q.2 (show ¬ (1 : Nat) = 2 by decide))
    have f1 := po_s1_other (v := .int (Int32.ofNat (i + 6))) (i := 3) f1 (by decide) (fun q => absurd q.2 (show ¬ (1 : Nat) = 2 by decide))
    have f2 := po_s1_other (v := .int (Int32.ofNat (i + 6))) (i := 3) f2 (by decide) (fun q => absurd q.2 (show ¬ (1 : Nat) = 2 by decide))
    have f3 : ab_lk (ab_s1 3 (.int (Int32.ofNat (i + 6))) lv) 3 = some (.int (Int32.ofNat (i + 6))) := mk_s1s
    refine go_goto (off := -1023) (tgt := 18) rfl rfl ?_
    exact IH a' b' β _ h2 hmd (lz_hd hL (lz_b1 hL g) hb hi f0 f1 f2 f3 hh2 hm2) sx_ag.rf R2
end LW
