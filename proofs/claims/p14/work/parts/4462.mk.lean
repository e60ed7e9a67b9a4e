/-! ===== layRight: the levels it leaves are below 2^wires ===== -/
def lr_W (ws0 ws : List Value) : Prop := ws.length = ws0.length ∧ ∀ k, k ≠ 37 → ws[k]? = ws0[k]?
theorem lr_W.st {ws0 ws : List Value} (q : lr_W ws0 ws) (v : Value) : lr_W ws0 (ws.set 37 v) := ⟨(List.length_set ..).trans q.1, fun i h1 => (List.getElem?_set_ne (by omega)).trans (q.2 i h1)⟩
theorem lr_W.q {ws0 ws : List Value} (q : lr_W ws0 ws) {EV ST : Nat} (m : ll_Q ws0 EV ST) : ll_Q ws EV ST := ⟨(q.2 3 (by decide)).trans m.1, (q.2 4 (by decide)).trans m.2.1, (q.2 35 (by decide)).trans m.2.2.1, (q.2 36 (by decide)).trans m.2.2.2.1, (q.2 32 (by decide)).trans m.2.2.2.2.1, (q.2 5 (by decide)).trans m.2.2.2.2.2.1, (q.2 38 (by decide)).trans m.2.2.2.2.2.2⟩
def lr_F (h0 h : ab_H) : Prop := h.1 = h0.1 ∧ h.2.1 = h0.2.1 ∧ ∀ a, a ≠ 82 → a ≠ 101 → a ≠ 102 → h.2.2 a = h0.2.2 a
theorem ll_M.w82 {h : ab_H} {ws : List Value} {wi nx lvs va fl : Nat → Int32} (m : ll_M h ws wi nx lvs va fl) (ws' : List Value) : ll_M (ab_wr h 82 (.inr (10, ws'))) ws' wi nx lvs va fl := ⟨ab_rd_self (ab_rd_of m.1).1, (ab_rd_other (by decide)).trans m.2.1, (ab_rd_other (by decide)).trans m.2.2.1, (ab_rd_other (by decide)).trans m.2.2.2.1, (ab_rd_other (by decide)).trans m.2.2.2.2.1, (ab_rd_other (by decide)).trans m.2.2.2.2.2⟩
theorem lr_F.wr {h0 h : ab_H} (q : lr_F h0 h) {a : Nat} (ha : a = 82 ∨ a = 101 ∨ a = 102) (e : ab_E) : lr_F h0 (ab_wr h a e) := ⟨q.1, q.2.1, fun b h1 h2 h3 => (va_up_ne h.2.2 e (by omega)).trans (q.2.2 b h1 h2 h3)⟩
theorem lr_F.ll {h0 h h' : ab_H} (q : lr_F h0 h) (c : ll_F h h') : lr_F h0 h' := ⟨c.1.trans q.1, c.2.1.trans q.2.1, fun a h1 h2 h3 => (c.2.2 a h2 h3).trans (q.2.2 a h1 h2 h3)⟩
/-- what is left behind -/
def lr_S (h0 : ab_H) (ws0 : List Value) (wi nx va : Nat → Int32) (W ST : Nat) (h : ab_H) : Prop := ∃ (ws : List Value) (lvs fl : Nat → Int32), ll_M h ws wi nx lvs va fl ∧ lr_W ws0 ws ∧ lr_F h0 h ∧ ll_G W ST lvs
section LR
variable {N d : Nat} {h0 : ab_H} {ws0 : List Value} {wi nx va : Nat → Int32} {EV ST W : Nat} {Q : Option Value → ab_H → Prop}
theorem lr_42 (hq0 : ll_Q ws0 EV ST) (hW00 : ws0[0]? = some (.int (Int32.ofNat W))) (hl0 : 37 < ws0.length) (hW : W ≤ 6) (hva : ∀ j, j < 16 → va j = 0 ∨ va j = 1) (kk : ∀ (r : Option Value) (h : ab_H), lr_S h0 ws0 wi nx va W ST h → Q r h) :
    ∀ (r i : Nat) (h : ab_H) (lv : ab_L), i + r = W → lr_S h0 ws0 wi nx va W ST h → (∀ ws, ab_rd h 82 = some (.inr (10, ws)) → ∃ y : Int32, ws[37]? = some (.int y)) → ab_lk lv 0 = some (.ref 82) → ab_lk lv 1 = some (.int (Int32.ofNat i)) → ab_pa N (d + 1) ab_M_X10_layRight 42 lv [] h Q := by
  have fin : ∀ (h : ab_H) (lv : ab_L), lr_S h0 ws0 wi nx va W ST h → (∀ ws, ab_rd h 82 = some (.inr (10, ws)) → ∃ y : Int32, ws[37]? = some (.int y)) → ab_lk lv 0 = some (.ref 82) → ab_pa N (d + 1) ab_M_X10_layRight 90 lv [] h Q := by
    intro h lv S hy f0
    have S0 := S
    obtain ⟨ws, lvs, fl, m, hw, hF, hG⟩ := S
    obtain ⟨y, h37⟩ := hy ws m.1
    refine pa_s (pc' := 91) (lv' := lv) (st' := [.ref 82]) (h' := h) rfl rfl (ig_ald f0) ?_
    refine pa_get (ci := 10) (k := 37) rfl m.1 h37 ?_
    refine px_ret (x := y) rfl rfl (fun q hx => ?_) (kk _ h S0)
    have hx : (if narrow .boolean (.int y) = .int y then some (some (Value.int y), h) else none) = some q := hx
    split at hx
    · cases hx; rfl
    · cases hx
  intro r
  induction r with
  | zero =>
    intro i h lv hr S hy f0 f1
    have S0 := S
    obtain ⟨ws, lvs, fl, m, hw, hF, hG⟩ := S
    have hW0 := (hw.2 0 (by decide)).trans hW00
    obtain rfl : i = W := hr
    refine pa_s (pc' := 43) (lv' := lv) (st' := [.int (Int32.ofNat i)]) (h' := h) rfl rfl (po_ild (nL := 0) f1) ?_
    refine pa_s (pc' := 44) (lv' := lv) (st' := [.ref 82, .int (Int32.ofNat i)]) (h' := h) rfl rfl (ig_ald f0) ?_
    refine pa_get (ci := 10) (k := 0) rfl m.1 hW0 ?_
    exact pa_ic (c := .ge) (off := 43) (tgt := 90) rfl rfl (fun _ => fin h lv S0 hy f0) (fun q => absurd (Int.le_refl _) q)
  | succ r ih =>
    intro i h lv hr S hy f0 f1
    have S0 := S
    obtain ⟨ws, lvs, fl, m, hw, hF, hG⟩ := S
    have hW0 := (hw.2 0 (by decide)).trans hW00
    obtain ⟨y, h37⟩ := hy ws m.1
    have put : ∀ (h : ab_H) (lvs fl : Nat → Int32) (x : Int32) (lv : ab_L), (x = 0 ∨ x = 1) → ll_M h ws wi nx lvs va fl → lr_F h0 h → ll_G W ST lvs → ab_lk lv 0 = some (.ref 82) → ab_lk lv 1 = some (.int (Int32.ofNat i)) → ab_pa N (d + 1) ab_M_X10_layRight 81 lv [.int x, .ref 82] h Q := by
      intro h lvs fl x lv hx m hF hG f0 f1
      refine pa_put rfl m.1 (show 37 < ws.length by rw [hw.1]; exact hl0) (by rcases hx with rfl | rfl <;> rfl) ?_
      refine pa_s (pc' := 87) (lv' := (ab_s1 1 (.int (Int32.ofNat (i + 1))) lv)) (st' := []) (h' := (ab_wr h 82 (.inr (10, ws.set 37 (.int x))))) rfl rfl (mk_inc1 (by decide) (by omega) f1) ?_
      have f1 : ab_lk (ab_s1 1 (.int (Int32.ofNat (i + 1))) lv) 1 = some (.int (Int32.ofNat (i + 1))) := mk_s1s
      have f0 := po_s1_other (v := .int (Int32.ofNat (i + 1))) (i := 1) f0 (by decide) (fun q => absurd q.2 (show ¬ (1 : Nat) = 2 by decide))
      generalize ab_s1 1 (.int (Int32.ofNat (i + 1))) lv = lv1 at f0 f1 ⊢
      refine pa_goto (off := -45) (tgt := 42) rfl rfl ?_
      refine ih (i + 1) _ lv1 (by omega) ⟨_, lvs, fl, m.w82 _, hw.st _, hF.wr (by decide) _, hG⟩ (fun ws' hr' => ?_) f0 f1
      rw [(m.w82 _).1] at hr'
      cases hr'
      exact ⟨x, List.getElem?_set_self (by rw [hw.1]; exact hl0)⟩
    refine pa_s (pc' := 43) (lv' := lv) (st' := [.int (Int32.ofNat i)]) (h' := h) rfl rfl (po_ild (nL := 0) f1) ?_
    refine pa_s (pc' := 44) (lv' := lv) (st' := [.ref 82, .int (Int32.ofNat i)]) (h' := h) rfl rfl (ig_ald f0) ?_
    refine pa_get (ci := 10) (k := 0) rfl m.1 hW0 ?_
    refine pa_ic (c := .ge) (off := 43) (tgt := 90) rfl rfl (fun _ => fin h lv S0 hy f0) (fun _ => ?_)
    refine pa_s (pc' := 51) (lv' := lv) (st' := [.ref 82]) (h' := h) rfl rfl (ig_ald f0) ?_
    refine pa_get (ci := 10) (k := 37) rfl m.1 h37 ?_
    refine pa_if (c := .eq) (off := 36) (tgt := 90) rfl rfl (fun _ => fin h lv S0 hy f0) (fun _ => ?_)
    refine pa_s (pc' := 58) (lv' := lv) (st' := [.ref 82]) (h' := h) rfl rfl (ig_ald f0) ?_
    refine pa_s (pc' := 59) (lv' := lv) (st' := [.ref 82, .ref 82]) (h' := h) rfl rfl (ig_ald f0) ?_
    refine pa_s (pc' := 60) (lv' := lv) (st' := [.int (Int32.ofNat i), .ref 82, .ref 82]) (h' := h) rfl rfl (po_ild (nL := 0) f1) ?_
    refine pa_s (pc' := 61) (lv' := lv) (st' := [.int 0, .int (Int32.ofNat i), .ref 82, .ref 82]) (h' := h) rfl rfl rfl ?_
    refine pa_cp rfl rfl (ll_cal (rest := [.ref 82]) (show 1 + 0 ≤ 8 by decide) m.1) rfl (fun N => ll_run (hw.q hq0) hW (show i < W by omega) hva (Or.inl rfl) ⟨lvs, fl, m, hG, rfl, rfl, fun _ _ _ => rfl⟩ N) (fun r h1 hr1 => ?_)
    obtain ⟨⟨x, rfl⟩, lvs1, fl1, m1, hG1, hF1⟩ := hr1
    show ab_pa N (d + 1) ab_M_X10_layRight 64 _ [.int x, .ref 82] _ Q
    have one : ∀ (h : ab_H) (lvs fl : Nat → Int32), ll_M h ws wi nx lvs va fl → lr_F h0 h → ll_G W ST lvs → ab_pa N (d + 1) ab_M_X10_layRight 76 lv [.ref 82] h Q := fun h lvs fl m hF hG => by
      refine pa_s (pc' := 77) (lv' := lv) (st' := [.int 1, .ref 82]) (h' := h) rfl rfl rfl ?_
      refine pa_goto (off := 4) (tgt := 81) rfl rfl ?_
      exact put h lvs fl 1 lv (Or.inr rfl) m hF hG f0 f1
    refine pa_if (c := .ne) (off := 12) (tgt := 76) rfl rfl (fun _ => one h1 lvs1 fl1 m1 (hF.ll hF1) hG1) (fun _ => ?_)
    refine pa_s (pc' := 68) (lv' := lv) (st' := [.ref 82, .ref 82]) (h' := h1) rfl rfl (ig_ald f0) ?_
    refine pa_s (pc' := 69) (lv' := lv) (st' := [.int (Int32.ofNat i), .ref 82, .ref 82]) (h' := h1) rfl rfl (po_ild (nL := 0) f1) ?_
    refine pa_s (pc' := 70) (lv' := lv) (st' := [.int 1, .int (Int32.ofNat i), .ref 82, .ref 82]) (h' := h1) rfl rfl rfl ?_
    refine pa_cp rfl rfl (ll_cal (rest := [.ref 82]) (show 1 + 0 ≤ 8 by decide) m1.1) rfl (fun N => ll_run (hw.q hq0) hW (show i < W by omega) hva (Or.inr rfl) ⟨lvs1, fl1, m1, hG1, rfl, rfl, fun _ _ _ => rfl⟩ N) (fun r h2 hr2 => ?_)
    obtain ⟨⟨x2, rfl⟩, lvs2, fl2, m2, hG2, hF2⟩ := hr2
    show ab_pa N (d + 1) ab_M_X10_layRight 73 _ [.int x2, .ref 82] _ Q
    refine pa_if (c := .eq) (off := 7) (tgt := 80) rfl rfl (fun _ => ?_) (fun _ => one h2 lvs2 fl2 m2 ((hF.ll hF1).ll hF2) hG2)
    refine pa_s (pc' := 81) (lv' := lv) (st' := [.int 0, .ref 82]) (h' := h2) rfl rfl rfl ?_
    exact put h2 lvs2 fl2 0 lv (Or.inl rfl) m2 ((hF.ll hF1).ll hF2) hG2 f0 f1
end LR
