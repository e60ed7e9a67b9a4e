/-! ===== hardest: a level of those that lack ===== -/
theorem mk_s1s {i : Nat} {v : Value} {lv : ab_L} : ab_lk (ab_s1 i v lv) i = some v := by
  unfold ab_s1 ab_lk
  exact if_pos rfl
theorem mk_s2s {i : Nat} {v : Value} {lv : ab_L} : ab_lk (ab_s2 i v lv) i = some v := by
  unfold ab_s2 ab_lk
  exact if_pos rfl
theorem mk_s2o {lv : ab_L} {i j : Nat} {v w : Value} (hj : ab_lk lv j = some w) (hne : j ≠ i) (hne2 : j ≠ i + 1) (hc : ¬ (j + 1 = i ∧ w.category = 2)) : ab_lk (ab_s2 i v lv) j = some w := by
  unfold ab_s2 ab_lk
  rw [if_neg (fun q => hne q.symm)]
  refine sx_lk_filter hj ?_
  dsimp only
  rw [Bool.and_eq_true, Bool.and_eq_true, Bool.not_eq_true', Bool.not_eq_true', Bool.not_eq_true']
  refine ⟨by simpa using hne, by simpa using hne2, ?_⟩
  rw [Bool.and_eq_false_iff]
  by_cases h1 : j + 1 = i
  · exact Or.inr (by simpa using fun q => hc ⟨h1, q⟩)
  · exact Or.inl (by simpa using h1)
theorem mk_lld {i n pc : Nat} {lv : ab_L} {st : List Value} {h : ab_H} {x : Int64} (hx : ab_lk lv i = some (.long x)) : ab_lld i n pc lv st h = some (pc + n, lv, .long x :: st, h) := by
  unfold ab_lld
  rw [hx]
theorem mk_inc1 {nL i pc j : Nat} {lv : ab_L} {st : List Value} {h : ab_H} (hL : i < nL) (hj : j < 2147483647) (hx : ab_lk lv i = some (.int (Int32.ofNat j))) : ab_inc nL i 1 pc lv st h = some (pc + 3, ab_s1 i (.int (Int32.ofNat (j + 1))) lv, st, h) := by
  unfold ab_inc
  rw [hx]
  dsimp only
  rw [if_pos hL, mk_inc hj]
theorem mk_cmp1 (b : Bool) : ab_ci .ne ((if b = true then (1 : Int64) else 0)).toInt (1 : Int64).toInt ↔ b = false := by
  cases b <;> simp [ab_ci] <;> decide
theorem mk_cmp0 (b : Bool) : ab_ci .eq ((if b = true then (1 : Int64) else 0)).toInt (0 : Int64).toInt ↔ b = false := by
  cases b <;> simp [ab_ci] <;> decide
section HD
variable {d : Nat} {h : ab_H} {ws : List Value} {co cv : Nat → Int64} {cl pt tr ll : Nat → Int32} {n : Nat} {on X : Int64} {Q : Option Value → ab_H → Prop}
/-- the inner loop: how many cubes have the level -/
theorem hd_in (m : mm h ws co cl cv pt tr ll) (hw : mw ws n on) {v : Nat} (hv : v < 64) {B LE : Int32} (kk : ∀ (c : Nat) (lv : ab_L), c ≤ 729 → ab_lk lv 0 = some (.ref 82) → ab_lk lv 1 = some (.long X) → ab_lk lv 3 = some (.int B) → ab_lk lv 4 = some (.int LE) → ab_lk lv 5 = some (.int (Int32.ofNat v)) → ab_lk lv 6 = some (.int (Int32.ofNat c)) → ab_go d ab_M_X10_hardest 68 lv [] h Q) :
    ∀ (r k c : Nat) (lv : ab_L), k + r = n → c ≤ k → ab_lk lv 0 = some (.ref 82) → ab_lk lv 1 = some (.long X) → ab_lk lv 3 = some (.int B) → ab_lk lv 4 = some (.int LE) → ab_lk lv 5 = some (.int (Int32.ofNat v)) → ab_lk lv 6 = some (.int (Int32.ofNat c)) → ab_lk lv 7 = some (.int (Int32.ofNat k)) → ab_go d ab_M_X10_hardest 35 lv [] h Q := by
  have hn := hw.1
  intro r
  induction r with
  | zero =>
    intro k c lv hk hc f0 f1 f3 f4 f5 f6 f7
    refine go_s (pc' := 37) (lv' := lv) (st' := [.int (Int32.ofNat k)]) (h' := h) rfl rfl (po_ild (nL := 0) f7) ?_
    refine go_s (pc' := 38) (lv' := lv) (st' := [.ref 82, .int (Int32.ofNat k)]) (h' := h) rfl rfl (ig_ald f0) ?_
    refine go_get (ci := 10) (k := 49) rfl m.1 hw.2.2.1 ?_
    refine go_ic (c := .ge) (off := 27) (tgt := 68) rfl rfl (fun _ => kk c lv (by omega) f0 f1 f3 f4 f5 f6) (fun q => ?_)
    exact absurd (show (Int32.ofNat n).toInt ≤ (Int32.ofNat k).toInt by rw [mk_i (by omega), mk_i (by omega)]; omega) q
  | succ r ih =>
    intro k c lv hk hc f0 f1 f3 f4 f5 f6 f7
    refine go_s (pc' := 37) (lv' := lv) (st' := [.int (Int32.ofNat k)]) (h' := h) rfl rfl (po_ild (nL := 0) f7) ?_
    refine go_s (pc' := 38) (lv' := lv) (st' := [.ref 82, .int (Int32.ofNat k)]) (h' := h) rfl rfl (ig_ald f0) ?_
    refine go_get (ci := 10) (k := 49) rfl m.1 hw.2.2.1 ?_
    refine go_ic (c := .ge) (off := 27) (tgt := 68) rfl rfl (fun q => ?_) (fun _ => ?_)
    · have q : (Int32.ofNat n).toInt ≤ (Int32.ofNat k).toInt := q
      rw [mk_i (by omega), mk_i (by omega)] at q
      omega
    · refine go_s (pc' := 46) (lv' := lv) (st' := [.int (Int32.ofNat c)]) (h' := h) rfl rfl (po_ild (nL := 0) f6) ?_
      refine go_s (pc' := 47) (lv' := lv) (st' := [.ref 82, .int (Int32.ofNat c)]) (h' := h) rfl rfl (ig_ald f0) ?_
      refine go_get (ci := 10) (k := 51) rfl m.1 hw.2.2.2.1 ?_
      refine go_s (pc' := 52) (lv' := lv) (st' := [.int (Int32.ofNat k), .ref 104, .int (Int32.ofNat c)]) (h' := h) rfl rfl (po_ild (nL := 0) f7) ?_
      refine go_lal (v := co k) rfl m.2.1 (mk_ix (by omega) (by omega)) (by rw [mk_cl (by omega)]) ?_
      refine go_s (pc' := 55) (lv' := lv) (st' := [.int (Int32.ofNat v), .long (co k), .int (Int32.ofNat c)]) (h' := h) rfl rfl (po_ild (nL := 0) f5) ?_
      refine go_s (pc' := 56) (lv' := lv) (st' := [.long ((co k) >>> (Int32.toInt64 (Int32.ofNat v) &&& 63)), .int (Int32.ofNat c)]) (h' := h) rfl rfl rfl ?_
      refine go_s (pc' := 57) (lv' := lv) (st' := [.long 1, .long ((co k) >>> (Int32.toInt64 (Int32.ofNat v) &&& 63)), .int (Int32.ofNat c)]) (h' := h) rfl rfl rfl ?_
      refine go_s (pc' := 58) (lv' := lv) (st' := [.long (if mk_bt (co k) v = true then 1 else 0), .int (Int32.ofNat c)]) (h' := h) rfl rfl (by rw [← mk_bit (co k) hv]; rfl) ?_
      refine go_s (pc' := 59) (lv' := lv) (st' := [.int (Int32.ofNat (if mk_bt (co k) v = true then 1 else 0)), .int (Int32.ofNat c)]) (h' := h) rfl rfl (by cases mk_bt (co k) v <;> rfl) ?_
      refine go_s (pc' := 60) (lv' := lv) (st' := [.int (Int32.ofNat (if mk_bt (co k) v = true then c + 1 else c))]) (h' := h) rfl rfl (by cases mk_bt (co k) v with | false => (show some (_, _, Value.int (Int32.ofNat c + Int32.ofNat 0) :: _, _) = _; rw [show Int32.ofNat c + Int32.ofNat 0 = Int32.ofNat c by simp]; rfl) | true => (show some (_, _, Value.int (Int32.ofNat c + Int32.ofInt 1) :: _, _) = _; rw [mk_inc (by omega)]; rfl)) ?_
      refine go_s (pc' := 62) (lv' := (ab_s1 6 (.int (Int32.ofNat (if mk_bt (co k) v = true then c + 1 else c))) lv)) (st' := []) (h' := h) rfl rfl rfl ?_
      have f6 : ab_lk (ab_s1 6 (.int (Int32.ofNat (if mk_bt (co k) v = true then c + 1 else c))) lv) 6 = some (.int (Int32.ofNat (if mk_bt (co k) v = true then c + 1 else c))) := mk_s1s
      have f0 := po_s1_other (v := .int (Int32.ofNat (if mk_bt (co k) v = true then c + 1 else c))) (i := 6) f0 (by decide) (fun q => absurd q.1 (by decide))
      have f1 := po_s1_other (v := .int (Int32.ofNat (if mk_bt (co k) v = true then c + 1 else c))) (i := 6) f1 (by decide) (fun q => absurd q.1 (by decide))
      have f3 := po_s1_other (v := .int (Int32.ofNat (if mk_bt (co k) v = true then c + 1 else c))) (i := 6) f3 (by decide) (fun q => absurd q.1 (by decide))
      have f4 := po_s1_other (v := .int (Int32.ofNat (if mk_bt (co k) v = true then c + 1 else c))) (i := 6) f4 (by decide) (fun q => absurd q.1 (by decide))
      have f5 := po_s1_other (v := .int (Int32.ofNat (if mk_bt (co k) v = true then c + 1 else c))) (i := 6) f5 (by decide) (fun q => absurd q.2 (show ¬ (1 : Nat) = 2 by decide))
      have f7 := po_s1_other (v := .int (Int32.ofNat (if mk_bt (co k) v = true then c + 1 else c))) (i := 6) f7 (by decide) (fun q => absurd q.1 (by decide))
      generalize ab_s1 6 (.int (Int32.ofNat (if mk_bt (co k) v = true then c + 1 else c))) lv = lv1 at f0 f1 f3 f4 f5 f6 f7 ⊢
      refine go_s (pc' := 65) (lv' := (ab_s1 7 (.int (Int32.ofNat (k + 1))) lv1)) (st' := []) (h' := h) rfl rfl (mk_inc1 (by decide) (by omega) f7) ?_
      have f7 : ab_lk (ab_s1 7 (.int (Int32.ofNat (k + 1))) lv1) 7 = some (.int (Int32.ofNat (k + 1))) := mk_s1s
      have f0 := po_s1_other (v := .int (Int32.ofNat (k + 1))) (i := 7) f0 (by decide) (fun q => absurd q.1 (by decide))
      have f1 := po_s1_other (v := .int (Int32.ofNat (k + 1))) (i := 7) f1 (by decide) (fun q => absurd q.1 (by decide))
      have f3 := po_s1_other (v := .int (Int32.ofNat (k + 1))) (i := 7) f3 (by decide) (fun q => absurd q.1 (by decide))
      have f4 := po_s1_other (v := .int (Int32.ofNat (k + 1))) (i := 7) f4 (by decide) (fun q => absurd q.1 (by decide))
      have f5 := po_s1_other (v := .int (Int32.ofNat (k + 1))) (i := 7) f5 (by decide) (fun q => absurd q.1 (by decide))
      have f6 := po_s1_other (v := .int (Int32.ofNat (k + 1))) (i := 7) f6 (by decide) (fun q => absurd q.2 (show ¬ (1 : Nat) = 2 by decide))
      generalize ab_s1 7 (.int (Int32.ofNat (k + 1))) lv1 = lv2 at f0 f1 f3 f4 f5 f6 f7 ⊢
      refine go_goto (off := -30) (tgt := 35) rfl rfl ?_
      refine ih (k + 1) (if mk_bt (co k) v = true then c + 1 else c) lv2 (by omega) (by split <;> omega) f0 f1 f3 f4 f5 f6 f7
end HD
