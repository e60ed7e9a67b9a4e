section LR2
variable {N d : Nat} {h0 : ab_H} {ws0 : List Value} {wi nx va : Nat → Int32} {EV ST W : Nat} {Q : Option Value → ab_H → Prop}
theorem lr_19 (hq0 : ll_Q ws0 EV ST) (hW00 : ws0[0]? = some (.int (Int32.ofNat W))) (hl0 : 37 < ws0.length) (hW : W ≤ 6) (hS : ST ≤ 200) (hva : ∀ j, j < 16 → va j = 0 ∨ va j = 1) (kk : ∀ (r : Option Value) (h : ab_H), lr_S h0 ws0 wi nx va W ST h → Q r h) {ws : List Value} (hw : lr_W ws0 ws) {y : Int32} (hy : ws[37]? = some (.int y)) :
    ∀ (r i : Nat) (h : ab_H) (lv : ab_L) (lvs fl : Nat → Int32), i + r = ST → ll_M h ws wi nx lvs va fl → lr_F h0 h → (∀ s, s < i → lvs s = 0) → ab_lk lv 0 = some (.ref 82) → ab_lk lv 1 = some (.int (Int32.ofNat i)) → ab_pa N (d + 1) ab_M_X10_layRight 19 lv [] h Q := by
  have hq := hw.q hq0
  intro r
  induction r with
  | zero =>
    intro i h lv lvs fl hr m hF hz f0 f1
    obtain rfl : i = ST := hr
    refine pa_s (pc' := 20) (lv' := lv) (st' := [.int (Int32.ofNat i)]) (h' := h) rfl rfl (po_ild (nL := 0) f1) ?_
    refine pa_s (pc' := 21) (lv' := lv) (st' := [.ref 82, .int (Int32.ofNat i)]) (h' := h) rfl rfl (ig_ald f0) ?_
    refine pa_get (ci := 10) (k := 32) rfl m.1 hq.2.2.2.2.1 ?_
    refine pa_ic (c := .ge) (off := 16) (tgt := 40) rfl rfl (fun _ => ?_) (fun q => absurd (Int.le_refl _) q)
    refine pa_s (pc' := 41) (lv' := lv) (st' := [.int 0]) (h' := h) rfl rfl rfl ?_
    refine pa_s (pc' := 42) (lv' := (ab_s1 1 (.int 0) lv)) (st' := []) (h' := h) rfl rfl rfl ?_
    have f1 : ab_lk (ab_s1 1 (.int 0) lv) 1 = some (.int 0) := mk_s1s
    have f0 := po_s1_other (v := .int 0) (i := 1) f0 (by decide) (fun q => absurd q.2 (show ¬ (1 : Nat) = 2 by decide))
    generalize ab_s1 1 (.int 0) lv = lv1 at f0 f1 ⊢
    refine lr_42 hq0 hW00 hl0 hW hva kk W 0 h lv1 (by omega) ⟨ws, lvs, fl, m, hw, hF, fun s hs => ⟨0, Nat.pow_pos (by decide), hz s hs⟩⟩ (fun ws' hr' => ?_) f0 f1
    rw [m.1] at hr'
    cases hr'
    exact ⟨y, hy⟩
  | succ r ih =>
    intro i h lv lvs fl hr m hF hz f0 f1
    refine pa_s (pc' := 20) (lv' := lv) (st' := [.int (Int32.ofNat i)]) (h' := h) rfl rfl (po_ild (nL := 0) f1) ?_
    refine pa_s (pc' := 21) (lv' := lv) (st' := [.ref 82, .int (Int32.ofNat i)]) (h' := h) rfl rfl (ig_ald f0) ?_
    refine pa_get (ci := 10) (k := 32) rfl m.1 hq.2.2.2.2.1 ?_
    refine pa_ic (c := .ge) (off := 16) (tgt := 40) rfl rfl (fun q => absurd (show (Int32.ofNat ST).toInt ≤ (Int32.ofNat i).toInt from q) (by rw [mk_i (by omega), mk_i (by omega)]; omega)) (fun _ => ?_)
    refine pa_s (pc' := 28) (lv' := lv) (st' := [.ref 82]) (h' := h) rfl rfl (ig_ald f0) ?_
    refine pa_get (ci := 10) (k := 36) rfl m.1 hq.2.2.2.1 ?_
    refine pa_s (pc' := 32) (lv' := lv) (st' := [.int (Int32.ofNat i), .ref 101]) (h' := h) rfl rfl (po_ild (nL := 0) f1) ?_
    refine pa_s (pc' := 33) (lv' := lv) (st' := [.int 0, .int (Int32.ofNat i), .ref 101]) (h' := h) rfl rfl rfl ?_
    refine pa_ias rfl m.2.2.2.1 (mk_ix (by omega) (by omega)) (by decide) ?_
    rw [mk_cl (show i < 2147483648 by omega)]
    refine pa_s (pc' := 37) (lv' := (ab_s1 1 (.int (Int32.ofNat (i + 1))) lv)) (st' := []) (h' := (ab_wr h 101 (.inl (0, 200, .inl (upd lvs i 0))))) rfl rfl (mk_inc1 (by decide) (by omega) f1) ?_
    have f1 : ab_lk (ab_s1 1 (.int (Int32.ofNat (i + 1))) lv) 1 = some (.int (Int32.ofNat (i + 1))) := mk_s1s
    have f0 := po_s1_other (v := .int (Int32.ofNat (i + 1))) (i := 1) f0 (by decide) (fun q => absurd q.2 (show ¬ (1 : Nat) = 2 by decide))
    generalize ab_s1 1 (.int (Int32.ofNat (i + 1))) lv = lv1 at f0 f1 ⊢
    refine pa_goto (off := -18) (tgt := 19) rfl rfl ?_
    refine ih (i + 1) _ lv1 _ fl (by omega) (m.w101 _) (hF.wr (by decide) _) (fun s hs => ?_) f0 f1
    unfold upd
    split
    · rfl
    · exact hz s (by omega)
/-- behind layStates -/
theorem lr_5 (hq0 : ll_Q ws0 EV ST) (hW00 : ws0[0]? = some (.int (Int32.ofNat W))) (hl0 : 37 < ws0.length) (hW : W ≤ 6) (hS : ST ≤ 200) (hva : ∀ j, j < 16 → va j = 0 ∨ va j = 1) (kk : ∀ (r : Option Value) (h : ab_H), lr_S h0 ws0 wi nx va W ST h → Q r h) {lvs fl : Nat → Int32} (m : ll_M h0 ws0 wi nx lvs va fl) {x : Int32} {lv : ab_L} (f0 : ab_lk lv 0 = some (.ref 82)) : ab_pa N (d + 1) ab_M_X10_layRight 5 lv [.int x, .ref 82] h0 Q := by
  have put : ∀ y : Int32, (y = 0 ∨ y = 1) → ab_pa N (d + 1) ab_M_X10_layRight 14 lv [.int y, .ref 82] h0 Q := by
    intro y hy
    refine pa_put rfl m.1 hl0 (by rcases hy with rfl | rfl <;> rfl) ?_
    refine pa_s (pc' := 18) (lv' := lv) (st' := [.int 0]) (h' := (ab_wr h0 82 (.inr (10, ws0.set 37 (.int y))))) rfl rfl rfl ?_
    refine pa_s (pc' := 19) (lv' := (ab_s1 1 (.int 0) lv)) (st' := []) (h' := (ab_wr h0 82 (.inr (10, ws0.set 37 (.int y))))) rfl rfl rfl ?_
    have f1 : ab_lk (ab_s1 1 (.int 0) lv) 1 = some (.int 0) := mk_s1s
    have f0 := po_s1_other (v := .int 0) (i := 1) f0 (by decide) (fun q => absurd q.2 (show ¬ (1 : Nat) = 2 by decide))
    generalize ab_s1 1 (.int 0) lv = lv1 at f0 f1 ⊢
    exact lr_19 hq0 hW00 hl0 hW hS hva kk (lr_W.st ⟨rfl, fun _ _ => rfl⟩ _) (List.getElem?_set_self hl0) ST 0 _ lv1 lvs fl (by omega) (m.w82 _) (lr_F.wr ⟨rfl, rfl, fun _ _ _ _ => rfl⟩ (by decide) _) (fun s hs => absurd hs (Nat.not_lt_zero _)) f0 f1
  refine pa_s (pc' := 6) (lv' := lv) (st' := [.int 1, .int x, .ref 82]) (h' := h0) rfl rfl rfl ?_
  refine pa_ic (c := .ne) (off := 7) (tgt := 13) rfl rfl (fun _ => ?_) (fun _ => ?_)
  · refine pa_s (pc' := 14) (lv' := lv) (st' := [.int 0, .ref 82]) (h' := h0) rfl rfl rfl ?_
    exact put 0 (Or.inl rfl)
  · refine pa_s (pc' := 10) (lv' := lv) (st' := [.int 1, .ref 82]) (h' := h0) rfl rfl rfl ?_
    refine pa_goto (off := 4) (tgt := 14) rfl rfl ?_
    exact put 1 (Or.inr rfl)
end LR2
