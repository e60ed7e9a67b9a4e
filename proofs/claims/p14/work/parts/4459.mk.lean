section LL3
variable {N d : Nat} {h0 : ab_H} {ws : List Value} {wi nx va : Nat → Int32} {EV ST W w : Nat} {Q : Option Value → ab_H → Prop}
theorem ll_89 (K : ll_K N d h0 ws wi nx va W ST w Q) (hq : ll_Q ws EV ST) (hW : W ≤ 6) (hw : w < W) (hva : ∀ j, j < 16 → va j = 0 ∨ va j = 1) {h : ab_H} {lv : ab_L} {a3 a4 a5 a6 : Int32} (S : ll_S h0 ws wi nx va W ST h) (f0 : ab_lk lv 0 = some (.ref 82)) (f1 : ab_lk lv 1 = some (.int (Int32.ofNat w))) (f3 : ab_lk lv 3 = some (.int a3)) (f4 : ab_lk lv 4 = some (.int a4)) (f5 : ab_lk lv 5 = some (.int a5)) (f6 : ab_lk lv 6 = some (.int a6)) : ab_pa N d ab_M_X10_layLevels 89 lv [] h Q := by
  have S0 := S
  obtain ⟨lvs, fl, m, hG, hF⟩ := S
  refine pa_s (pc' := 90) (lv' := lv) (st' := [.ref 82]) (h' := h) rfl rfl (ig_ald f0) ?_
  refine pa_get (ci := 10) (k := 38) rfl m.1 hq.2.2.2.2.2.2 ?_
  refine pa_s (pc' := 95) (lv' := lv) (st' := [.int a5, .ref 102]) (h' := h) rfl rfl (po_ild (nL := 0) f5) ?_
  refine px_bal rfl m.2.2.2.2.2 (fun hi95 => ?_)
  generalize fl (a5).toNatClampNeg = y1
  refine pa_if (c := .eq) (off := 177) (tgt := 273) rfl rfl (fun _ => ?_) (fun _ => ?_)
  · refine pa_s (pc' := 276) (lv' := (ab_s1 5 (.int (a5 + Int32.ofInt 1)) lv)) (st' := []) (h' := h) rfl rfl (px_inc (by decide) f5) ?_
    have f5 : ab_lk (ab_s1 5 (.int (a5 + Int32.ofInt 1)) lv) 5 = some (.int (a5 + Int32.ofInt 1)) := mk_s1s
    have f0 := po_s1_other (v := .int (a5 + Int32.ofInt 1)) (i := 5) f0 (by decide) (fun q => absurd q.1 (by decide))
    have f1 := po_s1_other (v := .int (a5 + Int32.ofInt 1)) (i := 5) f1 (by decide) (fun q => absurd q.1 (by decide))
    have f3 := po_s1_other (v := .int (a5 + Int32.ofInt 1)) (i := 5) f3 (by decide) (fun q => absurd q.1 (by decide))
    have f4 := po_s1_other (v := .int (a5 + Int32.ofInt 1)) (i := 5) f4 (by decide) (fun q => absurd q.2 (show ¬ (1 : Nat) = 2 by decide))
    have f6 := po_s1_other (v := .int (a5 + Int32.ofInt 1)) (i := 5) f6 (by decide) (fun q => absurd q.1 (by decide))
    generalize ab_s1 5 (.int (a5 + Int32.ofInt 1)) lv = lv1 at f0 f1 f3 f4 f5 f6 ⊢
    refine pa_goto (off := -208) (tgt := 68) rfl rfl ?_
    exact K.2.1 h lv1 _ _ _ S0 f0 f1 f3 f4 f5
  refine pa_s (pc' := 100) (lv' := lv) (st' := [.ref 82]) (h' := h) rfl rfl (ig_ald f0) ?_
  refine pa_get (ci := 10) (k := 35) rfl m.1 hq.2.2.1 ?_
  refine pa_s (pc' := 105) (lv' := lv) (st' := [.int 16, .ref 100]) (h' := h) rfl rfl rfl ?_
  refine pa_s (pc' := 107) (lv' := lv) (st' := [.int a5, .int 16, .ref 100]) (h' := h) rfl rfl (po_ild (nL := 0) f5) ?_
  refine pa_s (pc' := 108) (lv' := lv) (st' := [.int (16 * a5), .ref 100]) (h' := h) rfl rfl rfl ?_
  refine pa_s (pc' := 110) (lv' := lv) (st' := [.int a6, .int (16 * a5), .ref 100]) (h' := h) rfl rfl (po_ild (nL := 0) f6) ?_
  refine pa_s (pc' := 111) (lv' := lv) (st' := [.int ((16 * a5) + a6), .ref 100]) (h' := h) rfl rfl rfl ?_
  refine px_ial rfl m.2.2.1 (fun hi111 => ?_)
  generalize nx (((16 * a5) + a6)).toNatClampNeg = a7
  refine pa_s (pc' := 114) (lv' := (ab_s1 7 (.int a7) lv)) (st' := []) (h' := h) rfl rfl rfl ?_
  have f7 : ab_lk (ab_s1 7 (.int a7) lv) 7 = some (.int a7) := mk_s1s
  have f0 := po_s1_other (v := .int a7) (i := 7) f0 (by decide) (fun q => absurd q.1 (by decide))
  have f1 := po_s1_other (v := .int a7) (i := 7) f1 (by decide) (fun q => absurd q.1 (by decide))
  have f3 := po_s1_other (v := .int a7) (i := 7) f3 (by decide) (fun q => absurd q.1 (by decide))
  have f4 := po_s1_other (v := .int a7) (i := 7) f4 (by decide) (fun q => absurd q.1 (by decide))
  have f5 := po_s1_other (v := .int a7) (i := 7) f5 (by decide) (fun q => absurd q.1 (by decide))
  have f6 := po_s1_other (v := .int a7) (i := 7) f6 (by decide) (fun q => absurd q.2 (show ¬ (1 : Nat) = 2 by decide))
  generalize ab_s1 7 (.int a7) lv = lv1 at f0 f1 f3 f4 f5 f6 f7 ⊢
  refine pa_s (pc' := 116) (lv' := lv1) (st' := [.int a7]) (h' := h) rfl rfl (po_ild (nL := 0) f7) ?_
  refine pa_s (pc' := 118) (lv' := lv1) (st' := [.int (-4), .int a7]) (h' := h) rfl rfl rfl ?_
  refine pa_ic (c := .eq) (off := 149) (tgt := 267) rfl rfl (fun _ => ll_267 K S0 f0 f1 f3 f4 f5 f6) (fun _ => ?_)
  refine pa_s (pc' := 122) (lv' := lv1) (st' := [.ref 82]) (h' := h) rfl rfl (ig_ald f0) ?_
  refine pa_get (ci := 10) (k := 36) rfl m.1 hq.2.2.2.1 ?_
  refine pa_s (pc' := 127) (lv' := lv1) (st' := [.int a5, .ref 101]) (h' := h) rfl rfl (po_ild (nL := 0) f5) ?_
  refine px_ial rfl m.2.2.2.1 (fun hi127 => ?_)
  generalize lvs (a5).toNatClampNeg = y3
  refine pa_s (pc' := 129) (lv' := lv1) (st' := [.int (Int32.ofNat w), .int y3]) (h' := h) rfl rfl (po_ild (nL := 0) f1) ?_
  refine pa_s (pc' := 130) (lv' := lv1) (st' := [.int (y3 >>> ((Int32.ofNat w) &&& 31))]) (h' := h) rfl rfl rfl ?_
  refine pa_s (pc' := 131) (lv' := lv1) (st' := [.int 1, .int (y3 >>> ((Int32.ofNat w) &&& 31))]) (h' := h) rfl rfl rfl ?_
  refine pa_s (pc' := 132) (lv' := lv1) (st' := [.int ((y3 >>> ((Int32.ofNat w) &&& 31)) &&& 1)]) (h' := h) rfl rfl rfl ?_
  have h8 := ll_and1 (y3 >>> ((Int32.ofNat w) &&& 31))
  generalize ((y3 >>> ((Int32.ofNat w) &&& 31)) &&& 1) = a8 at h8 ⊢
  refine pa_s (pc' := 134) (lv' := (ab_s1 8 (.int a8) lv1)) (st' := []) (h' := h) rfl rfl rfl ?_
  have f8 : ab_lk (ab_s1 8 (.int a8) lv1) 8 = some (.int a8) := mk_s1s
  have f0 := po_s1_other (v := .int a8) (i := 8) f0 (by decide) (fun q => absurd q.1 (by decide))
  have f1 := po_s1_other (v := .int a8) (i := 8) f1 (by decide) (fun q => absurd q.1 (by decide))
  have f3 := po_s1_other (v := .int a8) (i := 8) f3 (by decide) (fun q => absurd q.1 (by decide))
  have f4 := po_s1_other (v := .int a8) (i := 8) f4 (by decide) (fun q => absurd q.1 (by decide))
  have f5 := po_s1_other (v := .int a8) (i := 8) f5 (by decide) (fun q => absurd q.1 (by decide))
  have f6 := po_s1_other (v := .int a8) (i := 8) f6 (by decide) (fun q => absurd q.1 (by decide))
  have f7 := po_s1_other (v := .int a8) (i := 8) f7 (by decide) (fun q => absurd q.2 (show ¬ (1 : Nat) = 2 by decide))
  generalize ab_s1 8 (.int a8) lv1 = lv2 at f0 f1 f3 f4 f5 f6 f7 f8 ⊢
  refine pa_s (pc' := 135) (lv' := lv2) (st' := [.ref 82]) (h' := h) rfl rfl (ig_ald f0) ?_
  refine pa_get (ci := 10) (k := 4) rfl m.1 hq.2.1 ?_
  refine pa_s (pc' := 140) (lv' := lv2) (st' := [.int a6, .ref 85]) (h' := h) rfl rfl (po_ild (nL := 0) f6) ?_
  refine px_ial rfl m.2.1 (fun hi140 => ?_)
  generalize wi (a6).toNatClampNeg = y4
  refine pa_s (pc' := 142) (lv' := lv2) (st' := [.int (Int32.ofNat w), .int y4]) (h' := h) rfl rfl (po_ild (nL := 0) f1) ?_
  refine pa_ic (c := .ne) (off := 13) (tgt := 155) rfl rfl (fun _ => ?_) (fun _ => ?_)
  · refine pa_s (pc' := 157) (lv' := lv2) (st' := [.int a8]) (h' := h) rfl rfl (po_ild (nL := 0) f8) ?_
    exact ll_157 K hq hW hw h8 S0 f0 f1 f3 f4 f5 f6 f7 f8
  · refine pa_s (pc' := 146) (lv' := lv2) (st' := [.ref 82]) (h' := h) rfl rfl (ig_ald f0) ?_
    refine pa_get (ci := 10) (k := 5) rfl m.1 hq.2.2.2.2.2.1 ?_
    refine pa_s (pc' := 151) (lv' := lv2) (st' := [.int a6, .ref 86]) (h' := h) rfl rfl (po_ild (nL := 0) f6) ?_
    refine px_ial rfl m.2.2.2.2.1 (fun hi151 => ?_)
    have hv151 := hva (a6).toNatClampNeg (ll_in hi151)
    generalize va (a6).toNatClampNeg = a9 at hv151 ⊢
    refine pa_goto (off := 5) (tgt := 157) rfl rfl ?_
    exact ll_157 K hq hW hw hv151 S0 f0 f1 f3 f4 f5 f6 f7 f8
theorem ll_all (hq : ll_Q ws EV ST) (hW : W ≤ 6) (hw : w < W) (hva : ∀ j, j < 16 → va j = 0 ∨ va j = 1) (kk : ∀ (x : Int32) (h : ab_H), ll_S h0 ws wi nx va W ST h → Q (some (.int x)) h) : ∀ N, ll_K N d h0 ws wi nx va W ST w Q := by
  intro N
  induction N with
  | zero => exact ⟨fun _ _ _ _ _ _ _ _ _ => pa_zero, fun _ _ _ _ _ _ _ _ _ _ _ => pa_zero, fun _ _ _ _ _ _ _ _ _ _ _ _ _ => pa_zero⟩
  | succ N K =>
    refine ⟨fun h lv a3 a4 S f0 f1 f3 f4 => ?_, fun h lv a3 a4 a5 S f0 f1 f3 f4 f5 => ?_, fun h lv a3 a4 a5 a6 S f0 f1 f3 f4 f5 f6 => ?_⟩
    · refine pa_lt (pc' := 59) (lv' := lv) (st' := [.int a4]) (h' := h) rfl rfl (po_ild (nL := 0) f4) ?_
      refine pa_if (c := .eq) (off := 223) (tgt := 282) rfl rfl (fun _ => ?_) (fun _ => ?_)
      · refine pa_s (pc' := 283) (lv' := lv) (st' := [.int a3]) (h' := h) rfl rfl (po_ild (nL := 0) f3) ?_
        refine px_ret (x := a3) rfl rfl (fun q hx => ?_) (kk a3 h S)
        have hx : (if narrow .boolean (.int a3) = .int a3 then some (some (Value.int a3), h) else none) = some q := hx
        split at hx
        · cases hx; rfl
        · cases hx
      · refine pa_s (pc' := 63) (lv' := lv) (st' := [.int 0]) (h' := h) rfl rfl rfl ?_
        refine pa_s (pc' := 65) (lv' := (ab_s1 4 (.int 0) lv)) (st' := []) (h' := h) rfl rfl rfl ?_
        have f4 : ab_lk (ab_s1 4 (.int 0) lv) 4 = some (.int 0) := mk_s1s
        have f0 := po_s1_other (v := .int 0) (i := 4) f0 (by decide) (fun q => absurd q.1 (by decide))
        have f1 := po_s1_other (v := .int 0) (i := 4) f1 (by decide) (fun q => absurd q.1 (by decide))
        have f3 := po_s1_other (v := .int 0) (i := 4) f3 (by decide) (fun q => absurd q.2 (show ¬ (1 : Nat) = 2 by decide))
        generalize ab_s1 4 (.int 0) lv = lv1 at f0 f1 f3 f4 ⊢
        refine pa_s (pc' := 66) (lv' := lv1) (st' := [.int 0]) (h' := h) rfl rfl rfl ?_
        refine pa_s (pc' := 68) (lv' := (ab_s1 5 (.int 0) lv1)) (st' := []) (h' := h) rfl rfl rfl ?_
        have f5 : ab_lk (ab_s1 5 (.int 0) lv1) 5 = some (.int 0) := mk_s1s
        have f0 := po_s1_other (v := .int 0) (i := 5) f0 (by decide) (fun q => absurd q.1 (by decide))
        have f1 := po_s1_other (v := .int 0) (i := 5) f1 (by decide) (fun q => absurd q.1 (by decide))
        have f3 := po_s1_other (v := .int 0) (i := 5) f3 (by decide) (fun q => absurd q.1 (by decide))
        have f4 := po_s1_other (v := .int 0) (i := 5) f4 (by decide) (fun q => absurd q.2 (show ¬ (1 : Nat) = 2 by decide))
        generalize ab_s1 5 (.int 0) lv1 = lv2 at f0 f1 f3 f4 f5 ⊢
        exact K.2.1 h lv2 _ _ _ S f0 f1 f3 f4 f5
    · have S0 := S
      obtain ⟨lvs, fl, m, hG, hF⟩ := S
      refine pa_lt (pc' := 70) (lv' := lv) (st' := [.int a5]) (h' := h) rfl rfl (po_ild (nL := 0) f5) ?_
      refine pa_s (pc' := 71) (lv' := lv) (st' := [.ref 82, .int a5]) (h' := h) rfl rfl (ig_ald f0) ?_
      refine pa_get (ci := 10) (k := 32) rfl m.1 hq.2.2.2.2.1 ?_
      refine pa_ic (c := .ge) (off := 205) (tgt := 279) rfl rfl (fun _ => ?_) (fun _ => ?_)
      · refine pa_goto (off := -222) (tgt := 57) rfl rfl ?_
        exact K.1 h lv _ _ S0 f0 f1 f3 f4
      · refine pa_s (pc' := 78) (lv' := lv) (st' := [.int 0]) (h' := h) rfl rfl rfl ?_
        refine pa_s (pc' := 80) (lv' := (ab_s1 6 (.int 0) lv)) (st' := []) (h' := h) rfl rfl rfl ?_
        have f6 : ab_lk (ab_s1 6 (.int 0) lv) 6 = some (.int 0) := mk_s1s
        have f0 := po_s1_other (v := .int 0) (i := 6) f0 (by decide) (fun q => absurd q.1 (by decide))
        have f1 := po_s1_other (v := .int 0) (i := 6) f1 (by decide) (fun q => absurd q.1 (by decide))
        have f3 := po_s1_other (v := .int 0) (i := 6) f3 (by decide) (fun q => absurd q.1 (by decide))
        have f4 := po_s1_other (v := .int 0) (i := 6) f4 (by decide) (fun q => absurd q.1 (by decide))
        have f5 := po_s1_other (v := .int 0) (i := 6) f5 (by decide) (fun q => absurd q.2 (show ¬ (1 : Nat) = 2 by decide))
        generalize ab_s1 6 (.int 0) lv = lv1 at f0 f1 f3 f4 f5 f6 ⊢
        exact K.2.2 h lv1 _ _ _ _ S0 f0 f1 f3 f4 f5 f6
    · have S0 := S
      obtain ⟨lvs, fl, m, hG, hF⟩ := S
      refine pa_lt (pc' := 82) (lv' := lv) (st' := [.int a6]) (h' := h) rfl rfl (po_ild (nL := 0) f6) ?_
      refine pa_s (pc' := 83) (lv' := lv) (st' := [.ref 82, .int a6]) (h' := h) rfl rfl (ig_ald f0) ?_
      refine pa_get (ci := 10) (k := 3) rfl m.1 hq.1 ?_
      refine pa_ic (c := .ge) (off := 187) (tgt := 273) rfl rfl (fun _ => ?_) (fun _ => ll_89 K hq hW hw hva S0 f0 f1 f3 f4 f5 f6)
      · refine pa_s (pc' := 276) (lv' := (ab_s1 5 (.int (a5 + Int32.ofInt 1)) lv)) (st' := []) (h' := h) rfl rfl (px_inc (by decide) f5) ?_
        have f5 : ab_lk (ab_s1 5 (.int (a5 + Int32.ofInt 1)) lv) 5 = some (.int (a5 + Int32.ofInt 1)) := mk_s1s
        have f0 := po_s1_other (v := .int (a5 + Int32.ofInt 1)) (i := 5) f0 (by decide) (fun q => absurd q.1 (by decide))
        have f1 := po_s1_other (v := .int (a5 + Int32.ofInt 1)) (i := 5) f1 (by decide) (fun q => absurd q.1 (by decide))
        have f3 := po_s1_other (v := .int (a5 + Int32.ofInt 1)) (i := 5) f3 (by decide) (fun q => absurd q.1 (by decide))
        have f4 := po_s1_other (v := .int (a5 + Int32.ofInt 1)) (i := 5) f4 (by decide) (fun q => absurd q.2 (show ¬ (1 : Nat) = 2 by decide))
        have f6 := po_s1_other (v := .int (a5 + Int32.ofInt 1)) (i := 5) f6 (by decide) (fun q => absurd q.1 (by decide))
        generalize ab_s1 5 (.int (a5 + Int32.ofInt 1)) lv = lv1 at f0 f1 f3 f4 f5 f6 ⊢
        refine pa_goto (off := -208) (tgt := 68) rfl rfl ?_
        exact K.2.1 h lv1 _ _ _ S0 f0 f1 f3 f4 f5
end LL3
