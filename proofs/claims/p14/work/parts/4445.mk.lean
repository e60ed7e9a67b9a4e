/-! ===== isHopeless: never said of what can be made ===== -/
def mk_G (cl : Nat → Int32) (n : Nat) (k : Nat) : Int := if k < n then (cl k).toInt else 0
section HP
variable {d : Nat} {h : ab_H} {ws : List Value} {co cv : Nat → Int64} {cl pt tr ll : Nat → Int32} {n : Nat} {on X F : Int64} {MA LF AS LT : Int32} {Q : Option Value → ab_H → Prop}
theorem mk_Gok (hc : ∀ k, k < n → 0 ≤ (cl k).toInt ∧ (cl k).toInt ≤ 6) (k : Nat) : 0 ≤ mk_G cl n k ∧ mk_G cl n k ≤ 6 := by
  unfold mk_G
  split
  · exact hc k (by assumption)
  · exact ⟨Int.le_refl _, by decide⟩
theorem mk_Glt {k : Nat} (hk : k < n) : mk_G cl n k = (cl k).toInt := if_pos hk
/-- the inner loop: what the cubes of a level have, and the fewest letters -/
def hp_J (co : Nat → Int64) (cl : Nat → Int32) (v k : Nat) (FE : Int32) (NE : Int64) : Prop := (0 ≤ FE.toInt ∧ FE.toInt ≤ 7) ∧ ∀ j, j < k → mk_bt (co j) v = true → FE.toInt ≤ (cl j).toInt ∧ ∀ i, i < 64 → mk_bt (co j) i = true → mk_bt NE i = true
theorem hp_in (m : mm h ws co cl cv pt tr ll) (hw : mw ws n on) (hc : ∀ k, k < n → 0 ≤ (cl k).toInt ∧ (cl k).toInt ≤ 6) {v : Nat} (hv : v < 64) (kk : ∀ (FE : Int32) (NE : Int64) (lv : ab_L), hp_J co cl v n FE NE → ab_lk lv 0 = some (.ref 82) → ab_lk lv 1 = some (.long X) → ab_lk lv 3 = some (.int MA) → ab_lk lv 4 = some (.int LF) → ab_lk lv 5 = some (.long F) → ab_lk lv 7 = some (.int AS) → ab_lk lv 8 = some (.int LT) → ab_lk lv 9 = some (.int (Int32.ofNat v)) → ab_lk lv 10 = some (.int FE) → ab_lk lv 11 = some (.long NE) → ab_go d ab_M_X10_isHopeless 117 lv [] h Q) :
    ∀ (r k : Nat) (FE : Int32) (NE : Int64) (lv : ab_L), k + r = n → hp_J co cl v k FE NE → ab_lk lv 0 = some (.ref 82) → ab_lk lv 1 = some (.long X) → ab_lk lv 3 = some (.int MA) → ab_lk lv 4 = some (.int LF) → ab_lk lv 5 = some (.long F) → ab_lk lv 7 = some (.int AS) → ab_lk lv 8 = some (.int LT) → ab_lk lv 9 = some (.int (Int32.ofNat v)) → ab_lk lv 10 = some (.int FE) → ab_lk lv 11 = some (.long NE) → ab_lk lv 13 = some (.int (Int32.ofNat k)) → ab_go d ab_M_X10_isHopeless 47 lv [] h Q := by
  have hn := hw.1
  intro r
  induction r with
  | zero =>
    intro k FE NE lv hk hJ f0 f1 f3 f4 f5 f7 f8 f9 f10 f11 f13
    refine go_s (pc' := 49) (lv' := lv) (st' := [.int (Int32.ofNat k)]) (h' := h) rfl rfl (po_ild (nL := 0) f13) ?_
    refine go_s (pc' := 50) (lv' := lv) (st' := [.ref 82, .int (Int32.ofNat k)]) (h' := h) rfl rfl (ig_ald f0) ?_
    refine go_get (ci := 10) (k := 49) rfl m.1 hw.2.2.1 ?_
    have e : k = n := by omega
    refine go_ic (c := .ge) (off := 64) (tgt := 117) rfl rfl (fun _ => kk FE NE lv (by rw [← e]; exact hJ) f0 f1 f3 f4 f5 f7 f8 f9 f10 f11) (fun q => ?_)
    exact absurd (show (Int32.ofNat n).toInt ≤ (Int32.ofNat k).toInt by rw [mk_i (by omega), mk_i (by omega)]; omega) q
  | succ r ih =>
    intro k FE NE lv hk hJ f0 f1 f3 f4 f5 f7 f8 f9 f10 f11 f13
    refine go_s (pc' := 49) (lv' := lv) (st' := [.int (Int32.ofNat k)]) (h' := h) rfl rfl (po_ild (nL := 0) f13) ?_
    refine go_s (pc' := 50) (lv' := lv) (st' := [.ref 82, .int (Int32.ofNat k)]) (h' := h) rfl rfl (ig_ald f0) ?_
    refine go_get (ci := 10) (k := 49) rfl m.1 hw.2.2.1 ?_
    refine go_ic (c := .ge) (off := 64) (tgt := 117) rfl rfl (fun q => ?_) (fun _ => ?_)
    · have q : (Int32.ofNat n).toInt ≤ (Int32.ofNat k).toInt := q
      rw [mk_i (by omega), mk_i (by omega)] at q
      omega
    · refine go_s (pc' := 57) (lv' := lv) (st' := [.ref 82]) (h' := h) rfl rfl (ig_ald f0) ?_
      refine go_get (ci := 10) (k := 51) rfl m.1 hw.2.2.2.1 ?_
      refine go_s (pc' := 62) (lv' := lv) (st' := [.int (Int32.ofNat k), .ref 104]) (h' := h) rfl rfl (po_ild (nL := 0) f13) ?_
      refine go_lal (v := co k) rfl m.2.1 (mk_ix (by omega) (by omega)) (by rw [mk_cl (by omega)]) ?_
      refine go_s (pc' := 65) (lv' := lv) (st' := [.int (Int32.ofNat v), .long (co k)]) (h' := h) rfl rfl (po_ild (nL := 0) f9) ?_
      refine go_s (pc' := 66) (lv' := lv) (st' := [.long ((co k) >>> (Int32.toInt64 (Int32.ofNat v) &&& 63))]) (h' := h) rfl rfl rfl ?_
      refine go_s (pc' := 67) (lv' := lv) (st' := [.long 1, .long ((co k) >>> (Int32.toInt64 (Int32.ofNat v) &&& 63))]) (h' := h) rfl rfl rfl ?_
      refine go_s (pc' := 68) (lv' := lv) (st' := [.long (if mk_bt (co k) v = true then 1 else 0)]) (h' := h) rfl rfl (by rw [← mk_bit (co k) hv]; rfl) ?_
      refine go_s (pc' := 69) (lv' := lv) (st' := [.long 1, .long (if mk_bt (co k) v = true then 1 else 0)]) (h' := h) rfl rfl rfl ?_
      refine go_s (pc' := 70) (lv' := lv) (st' := [.int (lg_cmp (if mk_bt (co k) v = true then 1 else 0) 1)]) (h' := h) rfl rfl rfl ?_
      refine go_ifl (c := .ne) (off := 41) (tgt := 111) rfl rfl (fun q => ?_) (fun q => ?_)
      · have hb := (mk_cmp1 (mk_bt (co k) v)).mp q
        refine go_s (pc' := 114) (lv' := (ab_s1 13 (.int (Int32.ofNat (k + 1))) lv)) (st' := []) (h' := h) rfl rfl (mk_inc1 (by decide) (by omega) f13) ?_
        have f13 : ab_lk (ab_s1 13 (.int (Int32.ofNat (k + 1))) lv) 13 = some (.int (Int32.ofNat (k + 1))) := mk_s1s
        have f0 := po_s1_other (v := .int (Int32.ofNat (k + 1))) (i := 13) f0 (by decide) (fun q => absurd q.1 (by decide))
        have f1 := po_s1_other (v := .int (Int32.ofNat (k + 1))) (i := 13) f1 (by decide) (fun q => absurd q.1 (by decide))
        have f3 := po_s1_other (v := .int (Int32.ofNat (k + 1))) (i := 13) f3 (by decide) (fun q => absurd q.1 (by decide))
        have f4 := po_s1_other (v := .int (Int32.ofNat (k + 1))) (i := 13) f4 (by decide) (fun q => absurd q.1 (by decide))
        have f5 := po_s1_other (v := .int (Int32.ofNat (k + 1))) (i := 13) f5 (by decide) (fun q => absurd q.1 (by decide))
        have f7 := po_s1_other (v := .int (Int32.ofNat (k + 1))) (i := 13) f7 (by decide) (fun q => absurd q.1 (by decide))
        have f8 := po_s1_other (v := .int (Int32.ofNat (k + 1))) (i := 13) f8 (by decide) (fun q => absurd q.1 (by decide))
        have f9 := po_s1_other (v := .int (Int32.ofNat (k + 1))) (i := 13) f9 (by decide) (fun q => absurd q.1 (by decide))
        have f10 := po_s1_other (v := .int (Int32.ofNat (k + 1))) (i := 13) f10 (by decide) (fun q => absurd q.1 (by decide))
        have f11 := po_s1_other (v := .int (Int32.ofNat (k + 1))) (i := 13) f11 (by decide) (fun q => absurd q.1 (by decide))
        generalize ab_s1 13 (.int (Int32.ofNat (k + 1))) lv = lv1 at f0 f1 f3 f4 f5 f7 f8 f9 f10 f11 f13 ⊢
        refine go_goto (off := -67) (tgt := 47) rfl rfl ?_
        exact ih (k + 1) FE NE lv1 (by omega) ⟨hJ.1, fun j hj hbj => by
          by_cases e : j = k
          · subst e; rw [hb] at hbj; cases hbj
          · exact hJ.2 j (by omega) hbj⟩ f0 f1 f3 f4 f5 f7 f8 f9 f10 f11 f13
      · have hck := hc k (by omega)
        refine go_s (pc' := 75) (lv' := lv) (st' := [.long NE]) (h' := h) rfl rfl (mk_lld f11) ?_
        refine go_s (pc' := 76) (lv' := lv) (st' := [.ref 82, .long NE]) (h' := h) rfl rfl (ig_ald f0) ?_
        refine go_get (ci := 10) (k := 51) rfl m.1 hw.2.2.2.1 ?_
        refine go_s (pc' := 81) (lv' := lv) (st' := [.int (Int32.ofNat k), .ref 104, .long NE]) (h' := h) rfl rfl (po_ild (nL := 0) f13) ?_
        refine go_lal (v := co k) rfl m.2.1 (mk_ix (by omega) (by omega)) (by rw [mk_cl (by omega)]) ?_
        refine go_s (pc' := 83) (lv' := lv) (st' := [.long (NE ||| (co k))]) (h' := h) rfl rfl rfl ?_
        refine go_s (pc' := 85) (lv' := (ab_s2 11 (.long (NE ||| (co k))) lv)) (st' := []) (h' := h) rfl rfl rfl ?_
        have f11 : ab_lk (ab_s2 11 (.long (NE ||| (co k))) lv) 11 = some (.long (NE ||| (co k))) := mk_s2s
        have f0 := mk_s2o (v := .long (NE ||| (co k))) (i := 11) f0 (by decide) (by decide) (fun q => absurd q.1 (by decide))
        have f1 := mk_s2o (v := .long (NE ||| (co k))) (i := 11) f1 (by decide) (by decide) (fun q => absurd q.1 (by decide))
        have f3 := mk_s2o (v := .long (NE ||| (co k))) (i := 11) f3 (by decide) (by decide) (fun q => absurd q.1 (by decide))
        have f4 := mk_s2o (v := .long (NE ||| (co k))) (i := 11) f4 (by decide) (by decide) (fun q => absurd q.1 (by decide))
        have f5 := mk_s2o (v := .long (NE ||| (co k))) (i := 11) f5 (by decide) (by decide) (fun q => absurd q.1 (by decide))
        have f7 := mk_s2o (v := .long (NE ||| (co k))) (i := 11) f7 (by decide) (by decide) (fun q => absurd q.1 (by decide))
        have f8 := mk_s2o (v := .long (NE ||| (co k))) (i := 11) f8 (by decide) (by decide) (fun q => absurd q.1 (by decide))
        have f9 := mk_s2o (v := .long (NE ||| (co k))) (i := 11) f9 (by decide) (by decide) (fun q => absurd q.1 (by decide))
        have f10 := mk_s2o (v := .long (NE ||| (co k))) (i := 11) f10 (by decide) (by decide) (fun q => absurd q.2 (show ¬ (1 : Nat) = 2 by decide))
        have f13 := mk_s2o (v := .long (NE ||| (co k))) (i := 11) f13 (by decide) (by decide) (fun q => absurd q.1 (by decide))
        generalize ab_s2 11 (.long (NE ||| (co k))) lv = lv1 at f0 f1 f3 f4 f5 f7 f8 f9 f10 f11 f13 ⊢
        refine go_s (pc' := 86) (lv' := lv1) (st' := [.ref 82]) (h' := h) rfl rfl (ig_ald f0) ?_
        refine go_get (ci := 10) (k := 52) rfl m.1 hw.2.2.2.2.1 ?_
        refine go_s (pc' := 91) (lv' := lv1) (st' := [.int (Int32.ofNat k), .ref 105]) (h' := h) rfl rfl (po_ild (nL := 0) f13) ?_
        refine go_ial (v := cl k) rfl m.2.2.1 (mk_ix (by omega) (by omega)) (by rw [mk_cl (by omega)]) ?_
        refine go_s (pc' := 94) (lv' := lv1) (st' := [.int FE, .int (cl k)]) (h' := h) rfl rfl (po_ild (nL := 0) f10) ?_
        refine go_ic (c := .ge) (off := 13) (tgt := 107) rfl rfl (fun q2 => ?_) (fun q2 => ?_)
        · refine go_s (pc' := 109) (lv' := lv1) (st' := [.int FE]) (h' := h) rfl rfl (po_ild (nL := 0) f10) ?_
          refine go_s (pc' := 111) (lv' := (ab_s1 10 (.int FE) lv1)) (st' := []) (h' := h) rfl rfl rfl ?_
          have f10 : ab_lk (ab_s1 10 (.int FE) lv1) 10 = some (.int FE) := mk_s1s
          have f0 := po_s1_other (v := .int FE) (i := 10) f0 (by decide) (fun q => absurd q.1 (by decide))
          have f1 := po_s1_other (v := .int FE) (i := 10) f1 (by decide) (fun q => absurd q.1 (by decide))
          have f3 := po_s1_other (v := .int FE) (i := 10) f3 (by decide) (fun q => absurd q.1 (by decide))
          have f4 := po_s1_other (v := .int FE) (i := 10) f4 (by decide) (fun q => absurd q.1 (by decide))
          have f5 := po_s1_other (v := .int FE) (i := 10) f5 (by decide) (fun q => absurd q.1 (by decide))
          have f7 := po_s1_other (v := .int FE) (i := 10) f7 (by decide) (fun q => absurd q.1 (by decide))
          have f8 := po_s1_other (v := .int FE) (i := 10) f8 (by decide) (fun q => absurd q.1 (by decide))
          have f9 := po_s1_other (v := .int FE) (i := 10) f9 (by decide) (fun q => absurd q.2 (show ¬ (1 : Nat) = 2 by decide))
          have f11 := po_s1_other (v := .int FE) (i := 10) f11 (by decide) (fun q => absurd q.1 (by decide))
          have f13 := po_s1_other (v := .int FE) (i := 10) f13 (by decide) (fun q => absurd q.1 (by decide))
          generalize ab_s1 10 (.int FE) lv1 = lv2 at f0 f1 f3 f4 f5 f7 f8 f9 f10 f11 f13 ⊢
          have q2 : FE.toInt ≤ (cl k).toInt := q2
          refine go_s (pc' := 114) (lv' := (ab_s1 13 (.int (Int32.ofNat (k + 1))) lv2)) (st' := []) (h' := h) rfl rfl (mk_inc1 (by decide) (by omega) f13) ?_
          have f13 : ab_lk (ab_s1 13 (.int (Int32.ofNat (k + 1))) lv2) 13 = some (.int (Int32.ofNat (k + 1))) := mk_s1s
          have f0 := po_s1_other (v := .int (Int32.ofNat (k + 1))) (i := 13) f0 (by decide) (fun q => absurd q.1 (by decide))
          have f1 := po_s1_other (v := .int (Int32.ofNat (k + 1))) (i := 13) f1 (by decide) (fun q => absurd q.1 (by decide))
          have f3 := po_s1_other (v := .int (Int32.ofNat (k + 1))) (i := 13) f3 (by decide) (fun q => absurd q.1 (by decide))
          have f4 := po_s1_other (v := .int (Int32.ofNat (k + 1))) (i := 13) f4 (by decide) (fun q => absurd q.1 (by decide))
          have f5 := po_s1_other (v := .int (Int32.ofNat (k + 1))) (i := 13) f5 (by decide) (fun q => absurd q.1 (by decide))
          have f7 := po_s1_other (v := .int (Int32.ofNat (k + 1))) (i := 13) f7 (by decide) (fun q => absurd q.1 (by decide))
          have f8 := po_s1_other (v := .int (Int32.ofNat (k + 1))) (i := 13) f8 (by decide) (fun q => absurd q.1 (by decide))
          have f9 := po_s1_other (v := .int (Int32.ofNat (k + 1))) (i := 13) f9 (by decide) (fun q => absurd q.1 (by decide))
          have f10 := po_s1_other (v := .int (Int32.ofNat (k + 1))) (i := 13) f10 (by decide) (fun q => absurd q.1 (by decide))
          have f11 := po_s1_other (v := .int (Int32.ofNat (k + 1))) (i := 13) f11 (by decide) (fun q => absurd q.1 (by decide))
          generalize ab_s1 13 (.int (Int32.ofNat (k + 1))) lv2 = lv3 at f0 f1 f3 f4 f5 f7 f8 f9 f10 f11 f13 ⊢
          refine go_goto (off := -67) (tgt := 47) rfl rfl ?_
          exact ih (k + 1) FE (NE ||| co k) lv3 (by omega) ⟨hJ.1, fun j hj hbj => by
            by_cases e : j = k
            · subst e
              exact ⟨by omega, fun i hi hb => by rw [mk_or, hb, Bool.or_true]⟩
            · obtain ⟨u1, u2⟩ := hJ.2 j (by omega) hbj
              exact ⟨by omega, fun i hi hb => by rw [mk_or, u2 i hi hb, Bool.true_or]⟩⟩ f0 f1 f3 f4 f5 f7 f8 f9 f10 f11 f13
        · refine go_s (pc' := 98) (lv' := lv1) (st' := [.ref 82]) (h' := h) rfl rfl (ig_ald f0) ?_
          refine go_get (ci := 10) (k := 52) rfl m.1 hw.2.2.2.2.1 ?_
          refine go_s (pc' := 103) (lv' := lv1) (st' := [.int (Int32.ofNat k), .ref 105]) (h' := h) rfl rfl (po_ild (nL := 0) f13) ?_
          refine go_ial (v := cl k) rfl m.2.2.1 (mk_ix (by omega) (by omega)) (by rw [mk_cl (by omega)]) ?_
          refine go_goto (off := 5) (tgt := 109) rfl rfl ?_
          refine go_s (pc' := 111) (lv' := (ab_s1 10 (.int (cl k)) lv1)) (st' := []) (h' := h) rfl rfl rfl ?_
          have f10 : ab_lk (ab_s1 10 (.int (cl k)) lv1) 10 = some (.int (cl k)) := mk_s1s
          have f0 := po_s1_other (v := .int (cl k)) (i := 10) f0 (by decide) (fun q => absurd q.1 (by decide))
          have f1 := po_s1_other (v := .int (cl k)) (i := 10) f1 (by decide) (fun q => absurd q.1 (by decide))
          have f3 := po_s1_other (v := .int (cl k)) (i := 10) f3 (by decide) (fun q => absurd q.1 (by decide))
          have f4 := po_s1_other (v := .int (cl k)) (i := 10) f4 (by decide) (fun q => absurd q.1 (by decide))
          have f5 := po_s1_other (v := .int (cl k)) (i := 10) f5 (by decide) (fun q => absurd q.1 (by decide))
          have f7 := po_s1_other (v := .int (cl k)) (i := 10) f7 (by decide) (fun q => absurd q.1 (by decide))
          have f8 := po_s1_other (v := .int (cl k)) (i := 10) f8 (by decide) (fun q => absurd q.1 (by decide))
          have f9 := po_s1_other (v := .int (cl k)) (i := 10) f9 (by decide) (fun q => absurd q.2 (show ¬ (1 : Nat) = 2 by decide))
          have f11 := po_s1_other (v := .int (cl k)) (i := 10) f11 (by decide) (fun q => absurd q.1 (by decide))
          have f13 := po_s1_other (v := .int (cl k)) (i := 10) f13 (by decide) (fun q => absurd q.1 (by decide))
          generalize ab_s1 10 (.int (cl k)) lv1 = lv2 at f0 f1 f3 f4 f5 f7 f8 f9 f10 f11 f13 ⊢
          have q2 : ¬ FE.toInt ≤ (cl k).toInt := q2
          refine go_s (pc' := 114) (lv' := (ab_s1 13 (.int (Int32.ofNat (k + 1))) lv2)) (st' := []) (h' := h) rfl rfl (mk_inc1 (by decide) (by omega) f13) ?_
          have f13 : ab_lk (ab_s1 13 (.int (Int32.ofNat (k + 1))) lv2) 13 = some (.int (Int32.ofNat (k + 1))) := mk_s1s
          have f0 := po_s1_other (v := .int (Int32.ofNat (k + 1))) (i := 13) f0 (by decide) (fun q => absurd q.1 (by decide))
          have f1 := po_s1_other (v := .int (Int32.ofNat (k + 1))) (i := 13) f1 (by decide) (fun q => absurd q.1 (by decide))
          have f3 := po_s1_other (v := .int (Int32.ofNat (k + 1))) (i := 13) f3 (by decide) (fun q => absurd q.1 (by decide))
          have f4 := po_s1_other (v := .int (Int32.ofNat (k + 1))) (i := 13) f4 (by decide) (fun q => absurd q.1 (by decide))
          have f5 := po_s1_other (v := .int (Int32.ofNat (k + 1))) (i := 13) f5 (by decide) (fun q => absurd q.1 (by decide))
          have f7 := po_s1_other (v := .int (Int32.ofNat (k + 1))) (i := 13) f7 (by decide) (fun q => absurd q.1 (by decide))
          have f8 := po_s1_other (v := .int (Int32.ofNat (k + 1))) (i := 13) f8 (by decide) (fun q => absurd q.1 (by decide))
          have f9 := po_s1_other (v := .int (Int32.ofNat (k + 1))) (i := 13) f9 (by decide) (fun q => absurd q.1 (by decide))
          have f10 := po_s1_other (v := .int (Int32.ofNat (k + 1))) (i := 13) f10 (by decide) (fun q => absurd q.1 (by decide))
          have f11 := po_s1_other (v := .int (Int32.ofNat (k + 1))) (i := 13) f11 (by decide) (fun q => absurd q.1 (by decide))
          generalize ab_s1 13 (.int (Int32.ofNat (k + 1))) lv2 = lv3 at f0 f1 f3 f4 f5 f7 f8 f9 f10 f11 f13 ⊢
          refine go_goto (off := -67) (tgt := 47) rfl rfl ?_
          exact ih (k + 1) (cl k) (NE ||| co k) lv3 (by omega) ⟨⟨hck.1, by omega⟩, fun j hj hbj => by
            by_cases e : j = k
            · subst e
              exact ⟨by omega, fun i hi hb => by rw [mk_or, hb, Bool.or_true]⟩
            · obtain ⟨u1, u2⟩ := hJ.2 j (by omega) hbj
              exact ⟨by omega, fun i hi hb => by rw [mk_or, u2 i hi hb, Bool.true_or]⟩⟩ f0 f1 f3 f4 f5 f7 f8 f9 f10 f11 f13
/-- the outer loop -/
def hp_I (n : Nat) (co : Nat → Int64) (cl : Nat → Int32) (on X F : Int64) (v a : Nat) (LT : Int32) : Prop := (a ≤ v ∧ 0 ≤ LT.toInt ∧ LT.toInt ≤ 7 * v) ∧ ∀ (a' : Nat) (g' : Int), mk_lb n co (mk_G cl n) on F a' g' → mk_lb n co (mk_G cl n) on X (a + a') (LT.toInt + g')
def hp_R (n : Nat) (co : Nat → Int64) (cl : Nat → Int32) (on X : Int64) (MA LF b : Int32) : Prop := b = 0 ∨ (b = 1 ∧ ∃ (a : Nat) (g : Int), mk_lb n co (mk_G cl n) on X a g ∧ (MA.toInt < a ∨ LF.toInt < g))
theorem hp_end (m : mm h ws co cl cv pt tr ll) (hw : mw ws n on) (kk : ∀ b : Int32, hp_R n co cl on X MA LF b → Q (some (.int b)) h) {v a : Nat} (hv : v ≤ 64) (hI : hp_I n co cl on X F v a LT) {lv : ab_L} (f3 : ab_lk lv 3 = some (.int MA)) (f4 : ab_lk lv 4 = some (.int LF)) (f7 : ab_lk lv 7 = some (.int (Int32.ofNat a))) (f8 : ab_lk lv 8 = some (.int LT)) : ab_go d ab_M_X10_isHopeless 144 lv [] h Q := by
  have hlb := hI.2 0 0 mk_lb0
  have ha := hI.1.1
  refine go_s (pc' := 146) (lv' := lv) (st' := [.int (Int32.ofNat a)]) (h' := h) rfl rfl (po_ild (nL := 0) f7) ?_
  refine go_s (pc' := 147) (lv' := lv) (st' := [.int MA, .int (Int32.ofNat a)]) (h' := h) rfl rfl (po_ild (nL := 0) f3) ?_
  have one : mk_lb n co (mk_G cl n) on X a LT.toInt := by simpa using hlb
  have yes : (MA.toInt < a ∨ LF.toInt < LT.toInt) → ab_go d ab_M_X10_isHopeless 157 lv [] h Q := fun q => by
    refine go_s (pc' := 158) (lv' := lv) (st' := [.int 1]) (h' := h) rfl rfl rfl ?_
    refine go_goto (off := 4) (tgt := 162) rfl rfl ?_
    exact go_rz (v := 1) rfl rfl (by decide) (kk 1 (Or.inr ⟨rfl, a, LT.toInt, one, q⟩))
  refine go_ic (c := .gt) (off := 10) (tgt := 157) rfl rfl (fun q => yes (Or.inl ?_)) (fun q => ?_)
  · have q : MA.toInt < (Int32.ofNat a).toInt := q
    rw [mk_i (by omega)] at q
    exact q
  · refine go_s (pc' := 152) (lv' := lv) (st' := [.int LT]) (h' := h) rfl rfl (po_ild (nL := 0) f8) ?_
    refine go_s (pc' := 154) (lv' := lv) (st' := [.int LF, .int LT]) (h' := h) rfl rfl (po_ild (nL := 0) f4) ?_
    refine go_ic (c := .le) (off := 7) (tgt := 161) rfl rfl (fun q2 => ?_) (fun q2 => yes (Or.inr ?_))
    · refine go_s (pc' := 162) (lv' := lv) (st' := [.int 0]) (h' := h) rfl rfl rfl ?_
      exact go_rz (v := 0) rfl rfl (by decide) (kk 0 (Or.inl rfl))
    · have q2 : ¬ LT.toInt ≤ LF.toInt := q2
      omega
theorem hp_out (m : mm h ws co cl cv pt tr ll) (hw : mw ws n on) (hc : ∀ k, k < n → 0 ≤ (cl k).toInt ∧ (cl k).toInt ≤ 6) (kk : ∀ b : Int32, hp_R n co cl on X MA LF b → Q (some (.int b)) h) :
    ∀ (r v a : Nat) (F : Int64) (LT : Int32) (lv : ab_L), v + r = 64 → hp_I n co cl on X F v a LT → ab_lk lv 0 = some (.ref 82) → ab_lk lv 1 = some (.long X) → ab_lk lv 3 = some (.int MA) → ab_lk lv 4 = some (.int LF) → ab_lk lv 5 = some (.long F) → ab_lk lv 7 = some (.int (Int32.ofNat a)) → ab_lk lv 8 = some (.int LT) → ab_lk lv 9 = some (.int (Int32.ofNat v)) → ab_go d ab_M_X10_isHopeless 12 lv [] h Q := by
  have hn := hw.1
  intro r
  induction r with
  | zero =>
    intro v a F LT lv hr hI f0 f1 f3 f4 f5 f7 f8 f9
    refine go_s (pc' := 14) (lv' := lv) (st' := [.int (Int32.ofNat v)]) (h' := h) rfl rfl (po_ild (nL := 0) f9) ?_
    refine go_s (pc' := 16) (lv' := lv) (st' := [.int 64, .int (Int32.ofNat v)]) (h' := h) rfl rfl rfl ?_
    refine go_ic (c := .ge) (off := 128) (tgt := 144) rfl rfl (fun _ => hp_end m hw kk (by omega) hI f3 f4 f7 f8) (fun q => ?_)
    exact absurd (show (64 : Int32).toInt ≤ (Int32.ofNat v).toInt by rw [mk_i (by omega)]; show (64 : Int) ≤ v; omega) q
  | succ r ih =>
    intro v a F LT lv hr hI f0 f1 f3 f4 f5 f7 f8 f9
    have ha := hI.1
    refine go_s (pc' := 14) (lv' := lv) (st' := [.int (Int32.ofNat v)]) (h' := h) rfl rfl (po_ild (nL := 0) f9) ?_
    refine go_s (pc' := 16) (lv' := lv) (st' := [.int 64, .int (Int32.ofNat v)]) (h' := h) rfl rfl rfl ?_
    refine go_ic (c := .ge) (off := 128) (tgt := 144) rfl rfl (fun _ => hp_end m hw kk (by omega) hI f3 f4 f7 f8) (fun _ => ?_)
    refine go_s (pc' := 21) (lv' := lv) (st' := [.int (Int32.ofNat a)]) (h' := h) rfl rfl (po_ild (nL := 0) f7) ?_
    refine go_s (pc' := 22) (lv' := lv) (st' := [.int MA, .int (Int32.ofNat a)]) (h' := h) rfl rfl (po_ild (nL := 0) f3) ?_
    refine go_ic (c := .gt) (off := 122) (tgt := 144) rfl rfl (fun _ => hp_end m hw kk (by omega) hI f3 f4 f7 f8) (fun _ => ?_)
    refine go_s (pc' := 27) (lv' := lv) (st' := [.long F]) (h' := h) rfl rfl (mk_lld f5) ?_
    refine go_s (pc' := 29) (lv' := lv) (st' := [.int (Int32.ofNat v), .long F]) (h' := h) rfl rfl (po_ild (nL := 0) f9) ?_
    refine go_s (pc' := 30) (lv' := lv) (st' := [.long (F >>> (Int32.toInt64 (Int32.ofNat v) &&& 63))]) (h' := h) rfl rfl rfl ?_
    refine go_s (pc' := 31) (lv' := lv) (st' := [.long 1, .long (F >>> (Int32.toInt64 (Int32.ofNat v) &&& 63))]) (h' := h) rfl rfl rfl ?_
    refine go_s (pc' := 32) (lv' := lv) (st' := [.long (if mk_bt F v = true then 1 else 0)]) (h' := h) rfl rfl (by rw [← mk_bit F (show v < 64 by omega)]; rfl) ?_
    refine go_s (pc' := 33) (lv' := lv) (st' := [.long 1, .long (if mk_bt F v = true then 1 else 0)]) (h' := h) rfl rfl rfl ?_
    refine go_s (pc' := 34) (lv' := lv) (st' := [.int (lg_cmp (if mk_bt F v = true then 1 else 0) 1)]) (h' := h) rfl rfl rfl ?_
    refine go_ifl (c := .ne) (off := 104) (tgt := 138) rfl rfl (fun q => ?_) (fun q => ?_)
    · refine go_s (pc' := 141) (lv' := (ab_s1 9 (.int (Int32.ofNat (v + 1))) lv)) (st' := []) (h' := h) rfl rfl (mk_inc1 (by decide) (by omega) f9) ?_
      have f9 : ab_lk (ab_s1 9 (.int (Int32.ofNat (v + 1))) lv) 9 = some (.int (Int32.ofNat (v + 1))) := mk_s1s
      have f0 := po_s1_other (v := .int (Int32.ofNat (v + 1))) (i := 9) f0 (by decide) (fun q => absurd q.1 (by decide))
      have f1 := po_s1_other (v := .int (Int32.ofNat (v + 1))) (i := 9) f1 (by decide) (fun q => absurd q.1 (by decide))
      have f3 := po_s1_other (v := .int (Int32.ofNat (v + 1))) (i := 9) f3 (by decide) (fun q => absurd q.1 (by decide))
      have f4 := po_s1_other (v := .int (Int32.ofNat (v + 1))) (i := 9) f4 (by decide) (fun q => absurd q.1 (by decide))
      have f5 := po_s1_other (v := .int (Int32.ofNat (v + 1))) (i := 9) f5 (by decide) (fun q => absurd q.1 (by decide))
      have f7 := po_s1_other (v := .int (Int32.ofNat (v + 1))) (i := 9) f7 (by decide) (fun q => absurd q.1 (by decide))
      have f8 := po_s1_other (v := .int (Int32.ofNat (v + 1))) (i := 9) f8 (by decide) (fun q => absurd q.2 (show ¬ (1 : Nat) = 2 by decide))
      generalize ab_s1 9 (.int (Int32.ofNat (v + 1))) lv = lv1 at f0 f1 f3 f4 f5 f7 f8 f9 ⊢
      refine go_goto (off := -129) (tgt := 12) rfl rfl ?_
      exact ih (v + 1) a F LT lv1 (by omega) ⟨⟨by omega, by omega, by omega⟩, hI.2⟩ f0 f1 f3 f4 f5 f7 f8 f9
    · have hb : mk_bt F v = true := by
        cases e : mk_bt F v with
        | true => rfl
        | false => rw [e] at q; exact absurd ((mk_cmp1 false).mpr rfl) q
      refine go_s (pc' := 39) (lv' := lv) (st' := [.int 7]) (h' := h) rfl rfl rfl ?_
      refine go_s (pc' := 41) (lv' := (ab_s1 10 (.int 7) lv)) (st' := []) (h' := h) rfl rfl rfl ?_
      have f10 : ab_lk (ab_s1 10 (.int 7) lv) 10 = some (.int 7) := mk_s1s
      have f0 := po_s1_other (v := .int 7) (i := 10) f0 (by decide) (fun q => absurd q.1 (by decide))
      have f1 := po_s1_other (v := .int 7) (i := 10) f1 (by decide) (fun q => absurd q.1 (by decide))
      have f3 := po_s1_other (v := .int 7) (i := 10) f3 (by decide) (fun q => absurd q.1 (by decide))
      have f4 := po_s1_other (v := .int 7) (i := 10) f4 (by decide) (fun q => absurd q.1 (by decide))
      have f5 := po_s1_other (v := .int 7) (i := 10) f5 (by decide) (fun q => absurd q.1 (by decide))
      have f7 := po_s1_other (v := .int 7) (i := 10) f7 (by decide) (fun q => absurd q.1 (by decide))
      have f8 := po_s1_other (v := .int 7) (i := 10) f8 (by decide) (fun q => absurd q.1 (by decide))
      have f9 := po_s1_other (v := .int 7) (i := 10) f9 (by decide) (fun q => absurd q.2 (show ¬ (1 : Nat) = 2 by decide))
      generalize ab_s1 10 (.int 7) lv = lv1 at f0 f1 f3 f4 f5 f7 f8 f9 f10 ⊢
      refine go_s (pc' := 42) (lv' := lv1) (st' := [.long 0]) (h' := h) rfl rfl rfl ?_
      refine go_s (pc' := 44) (lv' := (ab_s2 11 (.long 0) lv1)) (st' := []) (h' := h) rfl rfl rfl ?_
      have f11 : ab_lk (ab_s2 11 (.long 0) lv1) 11 = some (.long 0) := mk_s2s
      have f0 := mk_s2o (v := .long 0) (i := 11) f0 (by decide) (by decide) (fun q => absurd q.1 (by decide))
      have f1 := mk_s2o (v := .long 0) (i := 11) f1 (by decide) (by decide) (fun q => absurd q.1 (by decide))
      have f3 := mk_s2o (v := .long 0) (i := 11) f3 (by decide) (by decide) (fun q => absurd q.1 (by decide))
      have f4 := mk_s2o (v := .long 0) (i := 11) f4 (by decide) (by decide) (fun q => absurd q.1 (by decide))
      have f5 := mk_s2o (v := .long 0) (i := 11) f5 (by decide) (by decide) (fun q => absurd q.1 (by decide))
      have f7 := mk_s2o (v := .long 0) (i := 11) f7 (by decide) (by decide) (fun q => absurd q.1 (by decide))
      have f8 := mk_s2o (v := .long 0) (i := 11) f8 (by decide) (by decide) (fun q => absurd q.1 (by decide))
      have f9 := mk_s2o (v := .long 0) (i := 11) f9 (by decide) (by decide) (fun q => absurd q.1 (by decide))
      have f10 := mk_s2o (v := .long 0) (i := 11) f10 (by decide) (by decide) (fun q => absurd q.2 (show ¬ (1 : Nat) = 2 by decide))
      generalize ab_s2 11 (.long 0) lv1 = lv2 at f0 f1 f3 f4 f5 f7 f8 f9 f10 f11 ⊢
      refine go_s (pc' := 45) (lv' := lv2) (st' := [.int 0]) (h' := h) rfl rfl rfl ?_
      refine go_s (pc' := 47) (lv' := (ab_s1 13 (.int 0) lv2)) (st' := []) (h' := h) rfl rfl rfl ?_
      have f13 : ab_lk (ab_s1 13 (.int 0) lv2) 13 = some (.int 0) := mk_s1s
      have f0 := po_s1_other (v := .int 0) (i := 13) f0 (by decide) (fun q => absurd q.1 (by decide))
      have f1 := po_s1_other (v := .int 0) (i := 13) f1 (by decide) (fun q => absurd q.1 (by decide))
      have f3 := po_s1_other (v := .int 0) (i := 13) f3 (by decide) (fun q => absurd q.1 (by decide))
      have f4 := po_s1_other (v := .int 0) (i := 13) f4 (by decide) (fun q => absurd q.1 (by decide))
      have f5 := po_s1_other (v := .int 0) (i := 13) f5 (by decide) (fun q => absurd q.1 (by decide))
      have f7 := po_s1_other (v := .int 0) (i := 13) f7 (by decide) (fun q => absurd q.1 (by decide))
      have f8 := po_s1_other (v := .int 0) (i := 13) f8 (by decide) (fun q => absurd q.1 (by decide))
      have f9 := po_s1_other (v := .int 0) (i := 13) f9 (by decide) (fun q => absurd q.1 (by decide))
      have f10 := po_s1_other (v := .int 0) (i := 13) f10 (by decide) (fun q => absurd q.1 (by decide))
      have f11 := po_s1_other (v := .int 0) (i := 13) f11 (by decide) (fun q => absurd q.1 (by decide))
      generalize ab_s1 13 (.int 0) lv2 = lv3 at f0 f1 f3 f4 f5 f7 f8 f9 f10 f11 f13 ⊢
      refine hp_in m hw hc (show v < 64 by omega) (fun FE NE lv hJ f0 f1 f3 f4 f5 f7 f8 f9 f10 f11 => ?_) n 0 7 0 lv3 (by omega) ⟨⟨by decide, by decide⟩, fun j hj => absurd hj (Nat.not_lt_zero _)⟩ f0 f1 f3 f4 f5 f7 f8 f9 f10 f11 f13
      refine go_s (pc' := 119) (lv' := lv) (st' := [.long F]) (h' := h) rfl rfl (mk_lld f5) ?_
      refine go_s (pc' := 121) (lv' := lv) (st' := [.long NE, .long F]) (h' := h) rfl rfl (mk_lld f11) ?_
      refine go_s (pc' := 124) (lv' := lv) (st' := [.long (-1), .long NE, .long F]) (h' := h) rfl rfl rfl ?_
      refine go_s (pc' := 125) (lv' := lv) (st' := [.long (NE ^^^ (-1)), .long F]) (h' := h) rfl rfl rfl ?_
      refine go_s (pc' := 126) (lv' := lv) (st' := [.long (F &&& (NE ^^^ (-1)))]) (h' := h) rfl rfl rfl ?_
      refine go_s (pc' := 128) (lv' := (ab_s2 5 (.long (F &&& (NE ^^^ (-1)))) lv)) (st' := []) (h' := h) rfl rfl rfl ?_
      have f5 : ab_lk (ab_s2 5 (.long (F &&& (NE ^^^ (-1)))) lv) 5 = some (.long (F &&& (NE ^^^ (-1)))) := mk_s2s
      have f0 := mk_s2o (v := .long (F &&& (NE ^^^ (-1)))) (i := 5) f0 (by decide) (by decide) (fun q => absurd q.1 (by decide))
      have f1 := mk_s2o (v := .long (F &&& (NE ^^^ (-1)))) (i := 5) f1 (by decide) (by decide) (fun q => absurd q.1 (by decide))
      have f3 := mk_s2o (v := .long (F &&& (NE ^^^ (-1)))) (i := 5) f3 (by decide) (by decide) (fun q => absurd q.1 (by decide))
      have f4 := mk_s2o (v := .long (F &&& (NE ^^^ (-1)))) (i := 5) f4 (by decide) (by decide) (fun q => absurd q.2 (show ¬ (1 : Nat) = 2 by decide))
      have f7 := mk_s2o (v := .long (F &&& (NE ^^^ (-1)))) (i := 5) f7 (by decide) (by decide) (fun q => absurd q.1 (by decide))
      have f8 := mk_s2o (v := .long (F &&& (NE ^^^ (-1)))) (i := 5) f8 (by decide) (by decide) (fun q => absurd q.1 (by decide))
      have f9 := mk_s2o (v := .long (F &&& (NE ^^^ (-1)))) (i := 5) f9 (by decide) (by decide) (fun q => absurd q.1 (by decide))
      have f10 := mk_s2o (v := .long (F &&& (NE ^^^ (-1)))) (i := 5) f10 (by decide) (by decide) (fun q => absurd q.1 (by decide))
      have f11 := mk_s2o (v := .long (F &&& (NE ^^^ (-1)))) (i := 5) f11 (by decide) (by decide) (fun q => absurd q.1 (by decide))
      generalize ab_s2 5 (.long (F &&& (NE ^^^ (-1)))) lv = lv51 at f0 f1 f3 f4 f5 f7 f8 f9 f10 f11 ⊢
      refine go_s (pc' := 131) (lv' := (ab_s1 7 (.int (Int32.ofNat (a + 1))) lv51)) (st' := []) (h' := h) rfl rfl (mk_inc1 (by decide) (by omega) f7) ?_
      have f7 : ab_lk (ab_s1 7 (.int (Int32.ofNat (a + 1))) lv51) 7 = some (.int (Int32.ofNat (a + 1))) := mk_s1s
      have f0 := po_s1_other (v := .int (Int32.ofNat (a + 1))) (i := 7) f0 (by decide) (fun q => absurd q.1 (by decide))
      have f1 := po_s1_other (v := .int (Int32.ofNat (a + 1))) (i := 7) f1 (by decide) (fun q => absurd q.1 (by decide))
      have f3 := po_s1_other (v := .int (Int32.ofNat (a + 1))) (i := 7) f3 (by decide) (fun q => absurd q.1 (by decide))
      have f4 := po_s1_other (v := .int (Int32.ofNat (a + 1))) (i := 7) f4 (by decide) (fun q => absurd q.1 (by decide))
      have f5 := po_s1_other (v := .int (Int32.ofNat (a + 1))) (i := 7) f5 (by decide) (fun q => absurd q.1 (by decide))
      have f8 := po_s1_other (v := .int (Int32.ofNat (a + 1))) (i := 7) f8 (by decide) (fun q => absurd q.1 (by decide))
      have f9 := po_s1_other (v := .int (Int32.ofNat (a + 1))) (i := 7) f9 (by decide) (fun q => absurd q.1 (by decide))
      have f10 := po_s1_other (v := .int (Int32.ofNat (a + 1))) (i := 7) f10 (by decide) (fun q => absurd q.1 (by decide))
      have f11 := po_s1_other (v := .int (Int32.ofNat (a + 1))) (i := 7) f11 (by decide) (fun q => absurd q.1 (by decide))
      generalize ab_s1 7 (.int (Int32.ofNat (a + 1))) lv51 = lv52 at f0 f1 f3 f4 f5 f7 f8 f9 f10 f11 ⊢
      refine go_s (pc' := 133) (lv' := lv52) (st' := [.int LT]) (h' := h) rfl rfl (po_ild (nL := 0) f8) ?_
      refine go_s (pc' := 135) (lv' := lv52) (st' := [.int FE, .int LT]) (h' := h) rfl rfl (po_ild (nL := 0) f10) ?_
      refine go_s (pc' := 136) (lv' := lv52) (st' := [.int (LT + FE)]) (h' := h) rfl rfl rfl ?_
      refine go_s (pc' := 138) (lv' := (ab_s1 8 (.int (LT + FE)) lv52)) (st' := []) (h' := h) rfl rfl rfl ?_
      have f8 : ab_lk (ab_s1 8 (.int (LT + FE)) lv52) 8 = some (.int (LT + FE)) := mk_s1s
      have f0 := po_s1_other (v := .int (LT + FE)) (i := 8) f0 (by decide) (fun q => absurd q.1 (by decide))
      have f1 := po_s1_other (v := .int (LT + FE)) (i := 8) f1 (by decide) (fun q => absurd q.1 (by decide))
      have f3 := po_s1_other (v := .int (LT + FE)) (i := 8) f3 (by decide) (fun q => absurd q.1 (by decide))
      have f4 := po_s1_other (v := .int (LT + FE)) (i := 8) f4 (by decide) (fun q => absurd q.1 (by decide))
      have f5 := po_s1_other (v := .int (LT + FE)) (i := 8) f5 (by decide) (fun q => absurd q.1 (by decide))
      have f7 := po_s1_other (v := .int (LT + FE)) (i := 8) f7 (by decide) (fun q => absurd q.2 (show ¬ (1 : Nat) = 2 by decide))
      have f9 := po_s1_other (v := .int (LT + FE)) (i := 8) f9 (by decide) (fun q => absurd q.1 (by decide))
      have f10 := po_s1_other (v := .int (LT + FE)) (i := 8) f10 (by decide) (fun q => absurd q.1 (by decide))
      have f11 := po_s1_other (v := .int (LT + FE)) (i := 8) f11 (by decide) (fun q => absurd q.1 (by decide))
      generalize ab_s1 8 (.int (LT + FE)) lv52 = lv53 at f0 f1 f3 f4 f5 f7 f8 f9 f10 f11 ⊢
      have es : (LT + FE).toInt = LT.toInt + FE.toInt := by
        have := hJ.1
        rw [Int32.toInt_add, sx_bm (by omega) (by omega)]
      refine go_s (pc' := 141) (lv' := (ab_s1 9 (.int (Int32.ofNat (v + 1))) lv53)) (st' := []) (h' := h) rfl rfl (mk_inc1 (by decide) (by omega) f9) ?_
      have f9 : ab_lk (ab_s1 9 (.int (Int32.ofNat (v + 1))) lv53) 9 = some (.int (Int32.ofNat (v + 1))) := mk_s1s
      have f0 := po_s1_other (v := .int (Int32.ofNat (v + 1))) (i := 9) f0 (by decide) (fun q => absurd q.1 (by decide))
      have f1 := po_s1_other (v := .int (Int32.ofNat (v + 1))) (i := 9) f1 (by decide) (fun q => absurd q.1 (by decide))
      have f3 := po_s1_other (v := .int (Int32.ofNat (v + 1))) (i := 9) f3 (by decide) (fun q => absurd q.1 (by decide))
      have f4 := po_s1_other (v := .int (Int32.ofNat (v + 1))) (i := 9) f4 (by decide) (fun q => absurd q.1 (by decide))
      have f5 := po_s1_other (v := .int (Int32.ofNat (v + 1))) (i := 9) f5 (by decide) (fun q => absurd q.1 (by decide))
      have f7 := po_s1_other (v := .int (Int32.ofNat (v + 1))) (i := 9) f7 (by decide) (fun q => absurd q.1 (by decide))
      have f8 := po_s1_other (v := .int (Int32.ofNat (v + 1))) (i := 9) f8 (by decide) (fun q => absurd q.2 (show ¬ (1 : Nat) = 2 by decide))
      have f10 := po_s1_other (v := .int (Int32.ofNat (v + 1))) (i := 9) f10 (by decide) (fun q => absurd q.1 (by decide))
      have f11 := po_s1_other (v := .int (Int32.ofNat (v + 1))) (i := 9) f11 (by decide) (fun q => absurd q.1 (by decide))
      generalize ab_s1 9 (.int (Int32.ofNat (v + 1))) lv53 = lv54 at f0 f1 f3 f4 f5 f7 f8 f9 f10 f11 ⊢
      refine go_goto (off := -129) (tgt := 12) rfl rfl ?_
      refine ih (v + 1) (a + 1) (F &&& (NE ^^^ -1)) (LT + FE) lv54 (by omega) ⟨⟨by omega, by have := hJ.1; omega, by have := hJ.1; omega⟩, fun a' g' hlb => ?_⟩ f0 f1 f3 f4 f5 f7 f8 f9
      have st := mk_lb_step (fun k => (mk_Gok hc k).1) (show v < 64 by omega) hb (few := FE.toInt) (near := NE) (fun k hk hbk => by
        obtain ⟨u1, u2⟩ := hJ.2 k hk hbk
        exact ⟨by rw [mk_Glt hk]; exact u1, u2⟩) hlb
      have := hI.2 (a' + 1) (g' + FE.toInt) st
      rw [es, show a + 1 + a' = a + (a' + 1) by omega, show LT.toInt + FE.toInt + g' = LT.toInt + (g' + FE.toInt) by omega]
      exact this
theorem hp_run (m : mm h ws co cl cv pt tr ll) (hw : mw ws n on) (hc : ∀ k, k < n → 0 ≤ (cl k).toInt ∧ (cl k).toInt ≤ 6) (d : Nat) (X : Int64) (MA LF : Int32) : ab_go d ab_M_X10_isHopeless 0 [(0, .ref 82), (1, .long X), (3, .int MA), (4, .int LF)] [] h (fun r h' => h' = h ∧ ∃ b : Int32, r = some (.int b) ∧ hp_R n co cl on X MA LF b) := by
  have f0 : ab_lk [(0, Value.ref 82), (1, .long X), (3, .int MA), (4, .int LF)] 0 = some (.ref 82) := rfl
  have f1 : ab_lk [(0, Value.ref 82), (1, .long X), (3, .int MA), (4, .int LF)] 1 = some (.long X) := rfl
  have f3 : ab_lk [(0, Value.ref 82), (1, .long X), (3, .int MA), (4, .int LF)] 3 = some (.int MA) := rfl
  have f4 : ab_lk [(0, Value.ref 82), (1, .long X), (3, .int MA), (4, .int LF)] 4 = some (.int LF) := rfl
  generalize [(0, Value.ref 82), (1, .long X), (3, .int MA), (4, .int LF)] = lv at f0 f1 f3 f4 ⊢
  refine go_s (pc' := 1) (lv' := lv) (st' := [.long X]) (h' := h) rfl rfl (mk_lld f1) ?_
  refine go_s (pc' := 3) (lv' := (ab_s2 5 (.long X) lv)) (st' := []) (h' := h) rfl rfl rfl ?_
  have f5 : ab_lk (ab_s2 5 (.long X) lv) 5 = some (.long X) := mk_s2s
  have f0 := mk_s2o (v := .long X) (i := 5) f0 (by decide) (by decide) (fun q => absurd q.1 (by decide))
  have f1 := mk_s2o (v := .long X) (i := 5) f1 (by decide) (by decide) (fun q => absurd q.1 (by decide))
  have f3 := mk_s2o (v := .long X) (i := 5) f3 (by decide) (by decide) (fun q => absurd q.1 (by decide))
  have f4 := mk_s2o (v := .long X) (i := 5) f4 (by decide) (by decide) (fun q => absurd q.2 (show ¬ (1 : Nat) = 2 by decide))
  generalize ab_s2 5 (.long X) lv = lv1 at f0 f1 f3 f4 f5 ⊢
  refine go_s (pc' := 4) (lv' := lv1) (st' := [.int 0]) (h' := h) rfl rfl rfl ?_
  refine go_s (pc' := 6) (lv' := (ab_s1 7 (.int 0) lv1)) (st' := []) (h' := h) rfl rfl rfl ?_
  have f7 : ab_lk (ab_s1 7 (.int 0) lv1) 7 = some (.int 0) := mk_s1s
  have f0 := po_s1_other (v := .int 0) (i := 7) f0 (by decide) (fun q => absurd q.1 (by decide))
  have f1 := po_s1_other (v := .int 0) (i := 7) f1 (by decide) (fun q => absurd q.1 (by decide))
  have f3 := po_s1_other (v := .int 0) (i := 7) f3 (by decide) (fun q => absurd q.1 (by decide))
  have f4 := po_s1_other (v := .int 0) (i := 7) f4 (by decide) (fun q => absurd q.1 (by decide))
  have f5 := po_s1_other (v := .int 0) (i := 7) f5 (by decide) (fun q => absurd q.1 (by decide))
  generalize ab_s1 7 (.int 0) lv1 = lv2 at f0 f1 f3 f4 f5 f7 ⊢
  refine go_s (pc' := 7) (lv' := lv2) (st' := [.int 0]) (h' := h) rfl rfl rfl ?_
  refine go_s (pc' := 9) (lv' := (ab_s1 8 (.int 0) lv2)) (st' := []) (h' := h) rfl rfl rfl ?_
  have f8 : ab_lk (ab_s1 8 (.int 0) lv2) 8 = some (.int 0) := mk_s1s
  have f0 := po_s1_other (v := .int 0) (i := 8) f0 (by decide) (fun q => absurd q.1 (by decide))
  have f1 := po_s1_other (v := .int 0) (i := 8) f1 (by decide) (fun q => absurd q.1 (by decide))
  have f3 := po_s1_other (v := .int 0) (i := 8) f3 (by decide) (fun q => absurd q.1 (by decide))
  have f4 := po_s1_other (v := .int 0) (i := 8) f4 (by decide) (fun q => absurd q.1 (by decide))
  have f5 := po_s1_other (v := .int 0) (i := 8) f5 (by decide) (fun q => absurd q.1 (by decide))
  have f7 := po_s1_other (v := .int 0) (i := 8) f7 (by decide) (fun q => absurd q.2 (show ¬ (1 : Nat) = 2 by decide))
  generalize ab_s1 8 (.int 0) lv2 = lv3 at f0 f1 f3 f4 f5 f7 f8 ⊢
  refine go_s (pc' := 10) (lv' := lv3) (st' := [.int 0]) (h' := h) rfl rfl rfl ?_
  refine go_s (pc' := 12) (lv' := (ab_s1 9 (.int 0) lv3)) (st' := []) (h' := h) rfl rfl rfl ?_
  have f9 : ab_lk (ab_s1 9 (.int 0) lv3) 9 = some (.int 0) := mk_s1s
  have f0 := po_s1_other (v := .int 0) (i := 9) f0 (by decide) (fun q => absurd q.1 (by decide))
  have f1 := po_s1_other (v := .int 0) (i := 9) f1 (by decide) (fun q => absurd q.1 (by decide))
  have f3 := po_s1_other (v := .int 0) (i := 9) f3 (by decide) (fun q => absurd q.1 (by decide))
  have f4 := po_s1_other (v := .int 0) (i := 9) f4 (by decide) (fun q => absurd q.1 (by decide))
  have f5 := po_s1_other (v := .int 0) (i := 9) f5 (by decide) (fun q => absurd q.1 (by decide))
  have f7 := po_s1_other (v := .int 0) (i := 9) f7 (by decide) (fun q => absurd q.1 (by decide))
  have f8 := po_s1_other (v := .int 0) (i := 9) f8 (by decide) (fun q => absurd q.2 (show ¬ (1 : Nat) = 2 by decide))
  generalize ab_s1 9 (.int 0) lv3 = lv4 at f0 f1 f3 f4 f5 f7 f8 f9 ⊢
  refine hp_out m hw hc (fun b hb => ⟨rfl, b, rfl, hb⟩) 64 0 0 X 0 lv4 (by omega) ⟨⟨by omega, by decide, by decide⟩, fun a' g' hl => ?_⟩ f0 f1 f3 f4 f5 f7 f8 f9
  have e : (0 : Int32).toInt = 0 := rfl
  rw [e, Nat.zero_add, Int.zero_add]
  exact hl
end HP
