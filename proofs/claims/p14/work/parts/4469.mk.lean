section QU3
variable {d : Nat} {h0 : ab_H} {ws0 : List Value} {wi nx lvs ow : Nat → Int32} {EV ST W : Nat} {Q : Option Value → ab_H → Prop}
theorem qu_out (hq0 : am_Q ws0 EV ST) (hl0 : 42 < ws0.length) (hE : EV ≤ 16) (hS : ST ≤ 200) (hW0 : ws0[0]? = some (.int (Int32.ofNat W))) (hW2 : ws0[2]? = some (.ref 84)) (hW : W ≤ 6)
    (kk : ∀ (c : Nat) (h : ab_H), c ≤ 40000 → qu_S h0 ws0 wi nx lvs ow c h → qu_I wi nx lvs ow EV ST W ST 0 c → Q none h) :
    ∀ (r i c : Nat) (h : ab_H) (lv : ab_L), i + r = ST → c ≤ 200 * i → qu_S h0 ws0 wi nx lvs ow c h → qu_I wi nx lvs ow EV ST W i 0 c → ab_lk lv 0 = some (.ref 82) → ab_lk lv 1 = some (.int (Int32.ofNat i)) → ab_go (d + 2) ab_M_X10_layQuarrels 24 lv [] h Q := by
  intro r
  induction r with
  | zero =>
    intro i c h lv hr hc S hI f0 f1
    have S0 := S
    obtain ⟨ws, x39, x41, x42, m, m84, hw, hF, hx⟩ := S
    have hq := hw.q hq0
    obtain rfl : i = ST := hr
    refine go_s (pc' := 25) (lv' := lv) (st' := [.int (Int32.ofNat i)]) (h' := h) rfl rfl (po_ild (nL := 0) f1) ?_
    refine go_s (pc' := 26) (lv' := lv) (st' := [.ref 82, .int (Int32.ofNat i)]) (h' := h) rfl rfl (ig_ald f0) ?_
    refine go_get (ci := 10) (k := 32) rfl m.1 hq.2.2.2.2 ?_
    refine go_ic (c := .ge) (off := 119) (tgt := 148) rfl rfl (fun _ => ?_) (fun q => absurd (Int.le_refl _) q)
    exact go_rv rfl rfl (kk c h (by omega) S0 hI)
  | succ r ih =>
    intro i c h lv hr hc S hI f0 f1
    have S0 := S
    obtain ⟨ws, x39, x41, x42, m, m84, hw, hF, hx⟩ := S
    have hq := hw.q hq0
    refine go_s (pc' := 25) (lv' := lv) (st' := [.int (Int32.ofNat i)]) (h' := h) rfl rfl (po_ild (nL := 0) f1) ?_
    refine go_s (pc' := 26) (lv' := lv) (st' := [.ref 82, .int (Int32.ofNat i)]) (h' := h) rfl rfl (ig_ald f0) ?_
    refine go_get (ci := 10) (k := 32) rfl m.1 hq.2.2.2.2 ?_
    refine go_ic (c := .ge) (off := 119) (tgt := 148) rfl rfl (fun q => absurd (show (Int32.ofNat ST).toInt ≤ (Int32.ofNat i).toInt from q) (by rw [mk_i (by omega), mk_i (by omega)]; omega)) (fun _ => ?_)
    refine go_s (pc' := 33) (lv' := lv) (st' := [.int (Int32.ofNat i)]) (h' := h) rfl rfl (po_ild (nL := 0) f1) ?_
    refine go_s (pc' := 34) (lv' := lv) (st' := [.int 1, .int (Int32.ofNat i)]) (h' := h) rfl rfl rfl ?_
    refine go_s (pc' := 35) (lv' := lv) (st' := [.int (Int32.ofNat (i + 1))]) (h' := h) rfl rfl (by show some (_, _, Value.int (Int32.ofNat i + Int32.ofInt 1) :: _, _) = _; rw [mk_inc (by omega)]) ?_
    refine go_s (pc' := 36) (lv' := (ab_s1 2 (.int (Int32.ofNat (i + 1))) lv)) (st' := []) (h' := h) rfl rfl rfl ?_
    have f2 : ab_lk (ab_s1 2 (.int (Int32.ofNat (i + 1))) lv) 2 = some (.int (Int32.ofNat (i + 1))) := mk_s1s
    have f0 := po_s1_other (v := .int (Int32.ofNat (i + 1))) (i := 2) f0 (by decide) (fun q => absurd q.1 (by decide))
    have f1 := po_s1_other (v := .int (Int32.ofNat (i + 1))) (i := 2) f1 (by decide) (fun q => absurd q.2 (show ¬ (1 : Nat) = 2 by decide))
    generalize ab_s1 2 (.int (Int32.ofNat (i + 1))) lv = lv1 at f0 f1 f2 ⊢
    refine qu_in hq0 hl0 hE hS hW0 hW2 hW (show i < ST by omega) (fun c h lv hc S hI f0 f1 => ?_) (ST - (i + 1)) (i + 1) c h lv1 (by omega) (by omega) (by omega) S0 (fun z s1 s2 h1 h2 h3 => hI z s1 s2 h1 h2 (by omega)) f0 f1 f2
    refine go_s (pc' := 145) (lv' := (ab_s1 1 (.int (Int32.ofNat (i + 1))) lv)) (st' := []) (h' := h) rfl rfl (mk_inc1 (by decide) (by omega) f1) ?_
    have f1 : ab_lk (ab_s1 1 (.int (Int32.ofNat (i + 1))) lv) 1 = some (.int (Int32.ofNat (i + 1))) := mk_s1s
    have f0 := po_s1_other (v := .int (Int32.ofNat (i + 1))) (i := 1) f0 (by decide) (fun q => absurd q.2 (show ¬ (1 : Nat) = 2 by decide))
    generalize ab_s1 1 (.int (Int32.ofNat (i + 1))) lv = lv41 at f0 f1 ⊢
    refine go_goto (off := -121) (tgt := 24) rfl rfl ?_
    exact ih (i + 1) c h lv41 (by omega) (by omega) S (fun z s1 s2 h1 h2 h3 => hI z s1 s2 h1 h2 (by omega)) f0 f1
theorem qu_run (hq0 : am_Q ws0 EV ST) (hl0 : 42 < ws0.length) (hE : EV ≤ 16) (hS : ST ≤ 200) (hW0 : ws0[0]? = some (.int (Int32.ofNat W))) (hW2 : ws0[2]? = some (.ref 84)) (hW : W ≤ 6) (m : am_M h0 ws0 wi nx lvs) (m84 : ab_rd h0 84 = some (.inl (0, 6, .inl ow))) (d : Nat) : ab_go (d + 2) ab_M_X10_layQuarrels 0 [(0, .ref 82)] [] h0 (fun r h' => r = none ∧ ∃ c : Nat, c ≤ 40000 ∧ qu_S h0 ws0 wi nx lvs ow c h' ∧ (c = 0 → ∀ s1 s2, s1 < s2 → s2 < ST → qu_ok wi nx lvs ow EV W s1 s2)) := by
  have f0 : ab_lk [(0, Value.ref 82)] 0 = some (.ref 82) := rfl
  generalize [(0, Value.ref 82)] = lv at f0 ⊢
  refine go_s (pc' := 1) (lv' := lv) (st' := [.ref 82]) (h' := h0) rfl rfl (ig_ald f0) ?_
  refine go_s (pc' := 2) (lv' := lv) (st' := [.int 0, .ref 82]) (h' := h0) rfl rfl rfl ?_
  refine go_put rfl m.1 (show 39 < (ws0).length by (try simp only [List.length_set]); omega) lm_fit ?_
  have m1 := m.w82 ((ws0).set 39 (.int 0))
  refine go_s (pc' := 6) (lv' := lv) (st' := [.ref 82]) (h' := (ab_wr h0 82 (.inr (10, (ws0).set 39 (.int 0))))) rfl rfl (ig_ald f0) ?_
  refine go_s (pc' := 7) (lv' := lv) (st' := [.int 0, .ref 82]) (h' := (ab_wr h0 82 (.inr (10, (ws0).set 39 (.int 0))))) rfl rfl rfl ?_
  refine go_put rfl m1.1 (show 40 < ((ws0).set 39 (.int 0)).length by (try simp only [List.length_set]); omega) lm_fit ?_
  have m2 := m1.w82 (((ws0).set 39 (.int 0)).set 40 (.int 0))
  refine go_s (pc' := 11) (lv' := lv) (st' := [.ref 82]) (h' := (ab_wr (ab_wr h0 82 (.inr (10, (ws0).set 39 (.int 0)))) 82 (.inr (10, ((ws0).set 39 (.int 0)).set 40 (.int 0))))) rfl rfl (ig_ald f0) ?_
  refine go_s (pc' := 13) (lv' := lv) (st' := [.int (-4), .ref 82]) (h' := (ab_wr (ab_wr h0 82 (.inr (10, (ws0).set 39 (.int 0)))) 82 (.inr (10, ((ws0).set 39 (.int 0)).set 40 (.int 0))))) rfl rfl rfl ?_
  refine go_put rfl m2.1 (show 41 < (((ws0).set 39 (.int 0)).set 40 (.int 0)).length by (try simp only [List.length_set]); omega) lm_fit ?_
  have m3 := m2.w82 ((((ws0).set 39 (.int 0)).set 40 (.int 0)).set 41 (.int (-4)))
  refine go_s (pc' := 17) (lv' := lv) (st' := [.ref 82]) (h' := (ab_wr (ab_wr (ab_wr h0 82 (.inr (10, (ws0).set 39 (.int 0)))) 82 (.inr (10, ((ws0).set 39 (.int 0)).set 40 (.int 0)))) 82 (.inr (10, (((ws0).set 39 (.int 0)).set 40 (.int 0)).set 41 (.int (-4)))))) rfl rfl (ig_ald f0) ?_
  refine go_s (pc' := 19) (lv' := lv) (st' := [.int (-4), .ref 82]) (h' := (ab_wr (ab_wr (ab_wr h0 82 (.inr (10, (ws0).set 39 (.int 0)))) 82 (.inr (10, ((ws0).set 39 (.int 0)).set 40 (.int 0)))) 82 (.inr (10, (((ws0).set 39 (.int 0)).set 40 (.int 0)).set 41 (.int (-4)))))) rfl rfl rfl ?_
  refine go_put rfl m3.1 (show 42 < ((((ws0).set 39 (.int 0)).set 40 (.int 0)).set 41 (.int (-4))).length by (try simp only [List.length_set]); omega) lm_fit ?_
  have m4 := m3.w82 (((((ws0).set 39 (.int 0)).set 40 (.int 0)).set 41 (.int (-4))).set 42 (.int (-4)))
  refine go_s (pc' := 23) (lv' := lv) (st' := [.int 0]) (h' := (ab_wr (ab_wr (ab_wr (ab_wr h0 82 (.inr (10, (ws0).set 39 (.int 0)))) 82 (.inr (10, ((ws0).set 39 (.int 0)).set 40 (.int 0)))) 82 (.inr (10, (((ws0).set 39 (.int 0)).set 40 (.int 0)).set 41 (.int (-4))))) 82 (.inr (10, ((((ws0).set 39 (.int 0)).set 40 (.int 0)).set 41 (.int (-4))).set 42 (.int (-4)))))) rfl rfl rfl ?_
  refine go_s (pc' := 24) (lv' := (ab_s1 1 (.int 0) lv)) (st' := []) (h' := (ab_wr (ab_wr (ab_wr (ab_wr h0 82 (.inr (10, (ws0).set 39 (.int 0)))) 82 (.inr (10, ((ws0).set 39 (.int 0)).set 40 (.int 0)))) 82 (.inr (10, (((ws0).set 39 (.int 0)).set 40 (.int 0)).set 41 (.int (-4))))) 82 (.inr (10, ((((ws0).set 39 (.int 0)).set 40 (.int 0)).set 41 (.int (-4))).set 42 (.int (-4)))))) rfl rfl rfl ?_
  have f1 : ab_lk (ab_s1 1 (.int 0) lv) 1 = some (.int 0) := mk_s1s
  have f0 := po_s1_other (v := .int 0) (i := 1) f0 (by decide) (fun q => absurd q.2 (show ¬ (1 : Nat) = 2 by decide))
  generalize ab_s1 1 (.int 0) lv = lv1 at f0 f1 ⊢
  refine qu_out (h0 := h0) hq0 hl0 hE hS hW0 hW2 hW (fun c h h1 h2 h3 => ⟨rfl, c, h1, h2, fun z s1 s2 q1 q2 => h3 z s1 s2 q1 q2 (Or.inl (by omega))⟩) ST 0 0 _ lv1 (by omega) (by omega) ⟨_, 0, -4, -4, m4, (ab_rd_other (by decide)).trans ((ab_rd_other (by decide)).trans ((ab_rd_other (by decide)).trans ((ab_rd_other (by decide)).trans m84))), ((((qu_W.st ⟨rfl, fun _ _ => rfl⟩ (by decide) _).st (by decide) _).st (by decide) _).st (by decide) _), ((((am_F.wr ⟨rfl, rfl, fun _ _ => rfl⟩ _).wr _).wr _).wr _), ?_⟩ (fun z s1 s2 h1 h2 h3 => absurd h3 (by omega)) f0 f1
  refine ⟨?_, ?_, ?_, ?_⟩
  · rw [List.getElem?_set_ne (by decide), List.getElem?_set_ne (by decide), List.getElem?_set_ne (by decide), List.getElem?_set_self (by omega)]
  · rw [List.getElem?_set_ne (by decide), List.getElem?_set_ne (by decide), List.getElem?_set_self (by simp only [List.length_set]; omega)]
    rfl
  · rw [List.getElem?_set_ne (by decide), List.getElem?_set_self (by simp only [List.length_set]; omega)]
  · rw [List.getElem?_set_self (by simp only [List.length_set]; omega)]
end QU3
