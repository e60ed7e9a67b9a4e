/-! ===== ownWires ===== -/
def ow_v (ow : Nat → Int32) : Nat → Int32
  | 0 => 0
  | i + 1 => ow_v ow i ||| (if 0 < (ow i).toInt then (1 : Int32) <<< (Int32.ofNat i &&& 31) else (0 : Int32))
section OW
variable {d : Nat} {h : ab_H} {ws : List Value} {ow : Nat → Int32} {W : Nat} {Q : Option Value → ab_H → Prop}
theorem ow_loop (m : ab_rd h 82 = some (.inr (10, ws)) ∧ ab_rd h 84 = some (.inl (0, 6, .inl ow))) (hW0 : ws[0]? = some (.int (Int32.ofNat W))) (h2 : ws[2]? = some (.ref 84)) (hW : W ≤ 6) (kk : Q (some (.int (ow_v ow W))) h) : ∀ (r i : Nat) (lv : ab_L), i + r = W → ab_lk lv 0 = some (.ref 82) → ab_lk lv 1 = some (.int (ow_v ow i)) → ab_lk lv 2 = some (.int (Int32.ofNat i)) → ab_go d ab_M_X10_ownWires 4 lv [] h Q := by
  intro r
  induction r with
  | zero =>
    intro i lv hr f0 f1 f2
    obtain rfl : i = W := hr
    refine go_s (pc' := 5) (lv' := lv) (st' := [.int (Int32.ofNat i)]) (h' := h) rfl rfl (po_ild (nL := 0) f2) ?_
    refine go_s (pc' := 6) (lv' := lv) (st' := [.ref 82, .int (Int32.ofNat i)]) (h' := h) rfl rfl (ig_ald f0) ?_
    refine go_get (ci := 10) (k := 0) rfl m.1 hW0 ?_
    refine go_ic (c := .ge) (off := 28) (tgt := 37) rfl rfl (fun _ => ?_) (fun q => absurd (Int.le_refl _) q)
    refine go_s (pc' := 38) (lv' := lv) (st' := [.int (ow_v ow i)]) (h' := h) rfl rfl (po_ild (nL := 0) f1) ?_
    exact go_ri rfl rfl kk
  | succ r ih =>
    intro i lv hr f0 f1 f2
    refine go_s (pc' := 5) (lv' := lv) (st' := [.int (Int32.ofNat i)]) (h' := h) rfl rfl (po_ild (nL := 0) f2) ?_
    refine go_s (pc' := 6) (lv' := lv) (st' := [.ref 82, .int (Int32.ofNat i)]) (h' := h) rfl rfl (ig_ald f0) ?_
    refine go_get (ci := 10) (k := 0) rfl m.1 hW0 ?_
    refine go_ic (c := .ge) (off := 28) (tgt := 37) rfl rfl (fun q => absurd (show (Int32.ofNat W).toInt ≤ (Int32.ofNat i).toInt from q) (by rw [mk_i (by omega), mk_i (by omega)]; omega)) (fun _ => ?_)
    have rest : ∀ (x : Int32) (lv : ab_L), x = (if 0 < (ow i).toInt then (1 : Int32) <<< (Int32.ofNat i &&& 31) else (0 : Int32)) → ab_lk lv 0 = some (.ref 82) → ab_lk lv 1 = some (.int (ow_v ow i)) → ab_lk lv 2 = some (.int (Int32.ofNat i)) → ab_go d ab_M_X10_ownWires 29 lv [.int x, .int (ow_v ow i)] h Q := by
      intro x lv hx f0 f1 f2
      refine go_s (pc' := 30) (lv' := lv) (st' := [.int (ow_v ow (i + 1))]) (h' := h) rfl rfl (by show some (_, _, Value.int (ow_v ow i ||| x) :: _, _) = _; rw [hx]; rfl) ?_
      refine go_s (pc' := 31) (lv' := (ab_s1 1 (.int (ow_v ow (i + 1))) lv)) (st' := []) (h' := h) rfl rfl rfl ?_
      have f1 : ab_lk (ab_s1 1 (.int (ow_v ow (i + 1))) lv) 1 = some (.int (ow_v ow (i + 1))) := mk_s1s
      have f0 := po_s1_other (v := .int (ow_v ow (i + 1))) (i := 1) f0 (by decide) (fun q => absurd q.2 (show ¬ (1 : Nat) = 2 by decide))
      have f2 := po_s1_other (v := .int (ow_v ow (i + 1))) (i := 1) f2 (by decide) (fun q => absurd q.1 (by decide))
      generalize ab_s1 1 (.int (ow_v ow (i + 1))) lv = lv1 at f0 f1 f2 ⊢
      refine go_s (pc' := 34) (lv' := (ab_s1 2 (.int (Int32.ofNat (i + 1))) lv1)) (st' := []) (h' := h) rfl rfl (mk_inc1 (by decide) (by omega) f2) ?_
      have f2 : ab_lk (ab_s1 2 (.int (Int32.ofNat (i + 1))) lv1) 2 = some (.int (Int32.ofNat (i + 1))) := mk_s1s
      have f0 := po_s1_other (v := .int (Int32.ofNat (i + 1))) (i := 2) f0 (by decide) (fun q => absurd q.1 (by decide))
      have f1 := po_s1_other (v := .int (Int32.ofNat (i + 1))) (i := 2) f1 (by decide) (fun q => absurd q.2 (show ¬ (1 : Nat) = 2 by decide))
      generalize ab_s1 2 (.int (Int32.ofNat (i + 1))) lv1 = lv2 at f0 f1 f2 ⊢
      refine go_goto (off := -30) (tgt := 4) rfl rfl ?_
      exact ih (i + 1) lv2 (by omega) f0 f1 f2
    refine go_s (pc' := 13) (lv' := lv) (st' := [.int (ow_v ow i)]) (h' := h) rfl rfl (po_ild (nL := 0) f1) ?_
    refine go_s (pc' := 14) (lv' := lv) (st' := [.ref 82, .int (ow_v ow i)]) (h' := h) rfl rfl (ig_ald f0) ?_
    refine go_get (ci := 10) (k := 2) rfl m.1 h2 ?_
    refine go_s (pc' := 18) (lv' := lv) (st' := [.int (Int32.ofNat i), .ref 84, .int (ow_v ow i)]) (h' := h) rfl rfl (po_ild (nL := 0) f2) ?_
    refine go_ial (v := ow i) rfl m.2 (mk_ix (by omega) (by omega)) (by rw [mk_cl (by omega)]) ?_
    refine go_if (c := .le) (off := 9) (tgt := 28) rfl rfl (fun q => ?_) (fun q => ?_)
    · refine go_s (pc' := 29) (lv' := lv) (st' := [.int 0, .int (ow_v ow i)]) (h' := h) rfl rfl rfl ?_
      have q : (ow i).toInt ≤ 0 := q
      exact rest 0 _ (by rw [if_neg (by omega)]) f0 f1 f2
    · refine go_s (pc' := 23) (lv' := lv) (st' := [.int 1, .int (ow_v ow i)]) (h' := h) rfl rfl rfl ?_
      refine go_s (pc' := 24) (lv' := lv) (st' := [.int (Int32.ofNat i), .int 1, .int (ow_v ow i)]) (h' := h) rfl rfl (po_ild (nL := 0) f2) ?_
      refine go_s (pc' := 25) (lv' := lv) (st' := [.int (1 <<< ((Int32.ofNat i) &&& 31)), .int (ow_v ow i)]) (h' := h) rfl rfl rfl ?_
      refine go_goto (off := 4) (tgt := 29) rfl rfl ?_
      have q : ¬ (ow i).toInt ≤ 0 := q
      exact rest _ _ (by rw [if_pos (by omega)]) f0 f1 f2
theorem ow_run (m : ab_rd h 82 = some (.inr (10, ws)) ∧ ab_rd h 84 = some (.inl (0, 6, .inl ow))) (hW0 : ws[0]? = some (.int (Int32.ofNat W))) (h2 : ws[2]? = some (.ref 84)) (hW : W ≤ 6) (d : Nat) : ab_go d ab_M_X10_ownWires 0 [(0, .ref 82)] [] h (fun r h' => r = some (.int (ow_v ow W)) ∧ h' = h) := by
  have f0 : ab_lk [(0, Value.ref 82)] 0 = some (.ref 82) := rfl
  generalize [(0, Value.ref 82)] = lv at f0 ⊢
  refine go_s (pc' := 1) (lv' := lv) (st' := [.int 0]) (h' := h) rfl rfl rfl ?_
  refine go_s (pc' := 2) (lv' := (ab_s1 1 (.int 0) lv)) (st' := []) (h' := h) rfl rfl rfl ?_
  have f1 : ab_lk (ab_s1 1 (.int 0) lv) 1 = some (.int 0) := mk_s1s
  have f0 := po_s1_other (v := .int 0) (i := 1) f0 (by decide) (fun q => absurd q.2 (show ¬ (1 : Nat) = 2 by decide))
  generalize ab_s1 1 (.int 0) lv = lv1 at f0 f1 ⊢
  refine go_s (pc' := 3) (lv' := lv1) (st' := [.int 0]) (h' := h) rfl rfl rfl ?_
  refine go_s (pc' := 4) (lv' := (ab_s1 2 (.int 0) lv1)) (st' := []) (h' := h) rfl rfl rfl ?_
  have f2 : ab_lk (ab_s1 2 (.int 0) lv1) 2 = some (.int 0) := mk_s1s
  have f0 := po_s1_other (v := .int 0) (i := 2) f0 (by decide) (fun q => absurd q.1 (by decide))
  have f1 := po_s1_other (v := .int 0) (i := 2) f1 (by decide) (fun q => absurd q.2 (show ¬ (1 : Nat) = 2 by decide))
  generalize ab_s1 2 (.int 0) lv1 = lv2 at f0 f1 f2 ⊢
  exact ow_loop m hW0 h2 hW ⟨rfl, rfl⟩ W 0 lv2 (by omega) f0 f1 f2
end OW
