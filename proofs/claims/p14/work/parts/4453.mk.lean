/-! ===== layCubes: the prime cubes ===== -/
theorem lc_cal_all {h : ab_H}  {rest ws : List Value} (hw : (rest.map fun v => v.category).sum ≤ 8) (h82 : ab_rd h 82 = some (.inr (10, ws))) {i ix : Nat} : ab_cal ab_G (ab_c (.invokevirtual i) 0 190 0 ix) (.ref 82 :: rest) h = some (ab_M_X10_cubeAll, [.ref 82], rest) := ab_cal_v (As := []) rfl (show ab_G 190 = some ab_M_X10_cubeAll from rfl) rfl h82 rfl rfl (by unfold ab_cok; rw [Bool.and_eq_true]; exact ⟨rfl, decide_eq_true hw⟩) rfl
theorem lc_cal_lev {h : ab_H} {P : Int32} {rest ws : List Value} (hw : (rest.map fun v => v.category).sum ≤ 8) (h82 : ab_rd h 82 = some (.inr (10, ws))) {i ix : Nat} : ab_cal ab_G (ab_c (.invokevirtual i) 0 191 1 ix) (.int P :: .ref 82 :: rest) h = some (ab_M_X10_levelsOf, [.ref 82, .int P], rest) := ab_cal_v (As := [.int P]) rfl (show ab_G 191 = some ab_M_X10_levelsOf from rfl) rfl h82 rfl rfl (by unfold ab_cok; rw [Bool.and_eq_true]; exact ⟨rfl, decide_eq_true hw⟩) rfl
theorem lc_cal_let {h : ab_H} {P : Int32} {rest ws : List Value} (hw : (rest.map fun v => v.category).sum ≤ 8) (h82 : ab_rd h 82 = some (.inr (10, ws))) {i ix : Nat} : ab_cal ab_G (ab_c (.invokevirtual i) 0 192 1 ix) (.int P :: .ref 82 :: rest) h = some (ab_M_X10_lettersOf, [.ref 82, .int P], rest) := ab_cal_v (As := [.int P]) rfl (show ab_G 192 = some ab_M_X10_lettersOf from rfl) rfl h82 rfl rfl (by unfold ab_cok; rw [Bool.and_eq_true]; exact ⟨rfl, decide_eq_true hw⟩) rfl
theorem lc_hx {W c : Nat} {X S : Int64} (hW : W ≤ 6) (hX : lv_X W c (2 ^ W) X) : X &&& S = 0 ↔ ¬ lc_hit S W c := by
  have h2 := lc_p2 hW
  rw [mk_eq0]
  constructor
  · intro q ⟨l, h1, h3, h4⟩
    have := q l (by omega)
    rw [mk_and, (hX l (by omega)).mpr ⟨h1, h4⟩, h3] at this
    cases this
  · intro q i hi
    rw [mk_and]
    cases e : mk_bt X i with
    | false => rfl
    | true =>
      cases e2 : mk_bt S i with
      | false => rfl
      | true =>
        obtain ⟨a, b⟩ := (hX i hi).mp e
        exact absurd ⟨i, a, e2, b⟩ q
def lc_M (h : ab_H) (ws : List Value) (cu : Nat → Int32) (co : Nat → Int64) (cl : Nat → Int32) : Prop := ab_rd h 82 = some (.inr (10, ws)) ∧ ab_rd h 103 = some (.inl (0, 729, .inl cu)) ∧ ab_rd h 104 = some (.inl (2, 729, .inr (.inl co))) ∧ ab_rd h 105 = some (.inl (0, 729, .inl cl))
def lc_Q (ws : List Value) (W : Nat) (on off : Int64) : Prop := ws[0]? = some (.int (Int32.ofNat W)) ∧ ws[47]? = some (.long on) ∧ ws[48]? = some (.long off) ∧ ws[50]? = some (.ref 103) ∧ ws[51]? = some (.ref 104) ∧ ws[52]? = some (.ref 105) ∧ 49 < ws.length
def lc_W (ws0 ws : List Value) : Prop := ws.length = ws0.length ∧ ∀ k, k ≠ 49 → ws[k]? = ws0[k]?
theorem lc_W.st {ws0 ws : List Value} (q : lc_W ws0 ws) (v : Value) : lc_W ws0 (ws.set 49 v) := ⟨(List.length_set ..).trans q.1, fun i h1 => (List.getElem?_set_ne (by omega)).trans (q.2 i h1)⟩
theorem lc_W.q {ws0 ws : List Value} (q : lc_W ws0 ws) {W : Nat} {on off : Int64} (m : lc_Q ws0 W on off) : lc_Q ws W on off := ⟨(q.2 0 (by decide)).trans m.1, (q.2 47 (by decide)).trans m.2.1, (q.2 48 (by decide)).trans m.2.2.1, (q.2 50 (by decide)).trans m.2.2.2.1, (q.2 51 (by decide)).trans m.2.2.2.2.1, (q.2 52 (by decide)).trans m.2.2.2.2.2.1, by rw [q.1]; exact m.2.2.2.2.2.2⟩
def lc_F (h0 h : ab_H) : Prop := h.1 = h0.1 ∧ h.2.1 = h0.2.1 ∧ ∀ a, a ≠ 82 → a ≠ 103 → a ≠ 104 → a ≠ 105 → h.2.2 a = h0.2.2 a
theorem lc_F.wr {h0 h : ab_H} (q : lc_F h0 h) {a : Nat} (ha : a = 82 ∨ a = 103 ∨ a = 104 ∨ a = 105) (e : ab_E) : lc_F h0 (ab_wr h a e) := ⟨q.1, q.2.1, fun b h1 h2 h3 h4 => (va_up_ne h.2.2 e (by omega)).trans (q.2.2 b h1 h2 h3 h4)⟩
theorem lc_M.w82 {h : ab_H} {ws : List Value} {cu : Nat → Int32} {co : Nat → Int64} {cl : Nat → Int32} (m : lc_M h ws cu co cl) (ws' : List Value) : lc_M (ab_wr h 82 (.inr (10, ws'))) ws' cu co cl := ⟨ab_rd_self (ab_rd_of m.1).1, (ab_rd_other (by decide)).trans m.2.1, (ab_rd_other (by decide)).trans m.2.2.1, (ab_rd_other (by decide)).trans m.2.2.2⟩
theorem lc_M.w103 {h : ab_H} {ws : List Value} {cu : Nat → Int32} {co : Nat → Int64} {cl : Nat → Int32} (m : lc_M h ws cu co cl) (f : Nat → Int32) : lc_M (ab_wr h 103 (.inl (0, 729, .inl f))) ws f co cl := ⟨(ab_rd_other (by decide)).trans m.1, ab_rd_self (ab_rd_of m.2.1).1, (ab_rd_other (by decide)).trans m.2.2.1, (ab_rd_other (by decide)).trans m.2.2.2⟩
theorem lc_M.w104 {h : ab_H} {ws : List Value} {cu : Nat → Int32} {co : Nat → Int64} {cl : Nat → Int32} (m : lc_M h ws cu co cl) (f : Nat → Int64) : lc_M (ab_wr h 104 (.inl (2, 729, .inr (.inl f)))) ws cu f cl := ⟨(ab_rd_other (by decide)).trans m.1, (ab_rd_other (by decide)).trans m.2.1, ab_rd_self (ab_rd_of m.2.2.1).1, (ab_rd_other (by decide)).trans m.2.2.2⟩
theorem lc_M.w105 {h : ab_H} {ws : List Value} {cu : Nat → Int32} {co : Nat → Int64} {cl : Nat → Int32} (m : lc_M h ws cu co cl) (f : Nat → Int32) : lc_M (ab_wr h 105 (.inl (0, 729, .inl f))) ws cu co f := ⟨(ab_rd_other (by decide)).trans m.1, (ab_rd_other (by decide)).trans m.2.1, (ab_rd_other (by decide)).trans m.2.2.1, ab_rd_self (ab_rd_of m.2.2.2).1⟩
section LC
variable {d : Nat} {h0 : ab_H} {ws0 : List Value} {W : Nat} {on off : Int64} {Q : Option Value → ab_H → Prop}
/-- the flag while the letters are tried -/
def lc_I (on off : Int64) (W c i : Nat) (F : Int32) : Prop := (F = 1 ∧ ¬ lc_hit off W c ∧ lc_hit on W c ∧ ∀ j, j < i → dg c j ≠ 2 → lc_hit off W (lc_up c j)) ∨ (F = 0 ∧ ¬ lc_prime on off W c)
theorem lc_0 {x : Int64} : ab_ci .eq x.toInt (0 : Int64).toInt ↔ x = 0 := ⟨fun q => Int64.toInt_inj.mp q, fun q => congrArg Int64.toInt q⟩
theorem lc_in {h : ab_H} {ws : List Value} {X : Int64} {c : Nat} (m : ab_rd h 82 = some (.inr (10, ws)) ∧ True) (hq : lc_Q ws W on off) (hW : W ≤ 6) (hc : c < 3 ^ W) (kk : ∀ (F : Int32) (lv : ab_L), ((F = 1 ∧ lc_prime on off W c) ∨ (F = 0 ∧ ¬ lc_prime on off W c)) → ab_lk lv 0 = some (.ref 82) → ab_lk lv 1 = some (.int (Int32.ofNat c)) → ab_lk lv 2 = some (.long X) → ab_lk lv 4 = some (.int F) → ab_go (d + 1) ab_M_X10_layCubes 126 lv [] h Q) : ∀ (r i : Nat) (F : Int32) (lv : ab_L), i + r = W → lc_I on off W c i F → ab_lk lv 0 = some (.ref 82) → ab_lk lv 1 = some (.int (Int32.ofNat c)) → ab_lk lv 2 = some (.long X) → ab_lk lv 4 = some (.int F) → ab_lk lv 5 = some (.int (Int32.ofNat (3 ^ i))) → ab_lk lv 6 = some (.int (Int32.ofNat i)) → ab_go (d + 1) ab_M_X10_layCubes 56 lv [] h Q := by
  have h3 := lc_p3 hW
  intro r
  induction r with
  | zero =>
    intro i F lv hr hF f0 f1 f2 f4 f5 f6
    obtain rfl : i = W := hr
    refine go_s (pc' := 58) (lv' := lv) (st' := [.int (Int32.ofNat i)]) (h' := h) rfl rfl (po_ild (nL := 0) f6) ?_
    refine go_s (pc' := 59) (lv' := lv) (st' := [.ref 82, .int (Int32.ofNat i)]) (h' := h) rfl rfl (ig_ald f0) ?_
    refine go_get (ci := 10) (k := 0) rfl m.1 hq.1 ?_
    exact go_ic (c := .ge) (off := 64) (tgt := 126) rfl rfl (fun _ => kk F lv hF f0 f1 f2 f4) (fun q => absurd (Int.le_refl _) q)
  | succ r ih =>
    intro i F lv hr hF f0 f1 f2 f4 f5 f6
    have hp := lc_pw (show i < 6 by omega)
    have hp0 : 0 < 3 ^ i := Nat.pow_pos (by decide)
    have hd3 : dg c i < 3 := Nat.mod_lt _ (by decide)
    refine go_s (pc' := 58) (lv' := lv) (st' := [.int (Int32.ofNat i)]) (h' := h) rfl rfl (po_ild (nL := 0) f6) ?_
    refine go_s (pc' := 59) (lv' := lv) (st' := [.ref 82, .int (Int32.ofNat i)]) (h' := h) rfl rfl (ig_ald f0) ?_
    refine go_get (ci := 10) (k := 0) rfl m.1 hq.1 ?_
    refine go_ic (c := .ge) (off := 64) (tgt := 126) rfl rfl (fun q => absurd (show (Int32.ofNat W).toInt ≤ (Int32.ofNat i).toInt from q) (by rw [mk_i (by omega), mk_i (by omega)]; omega)) (fun _ => ?_)
    refine go_s (pc' := 67) (lv' := lv) (st' := [.int F]) (h' := h) rfl rfl (po_ild (nL := 0) f4) ?_
    refine go_if (c := .eq) (off := 59) (tgt := 126) rfl rfl (fun q => kk F lv (Or.inr ?_) f0 f1 f2 f4) (fun q => ?_)
    · rcases hF with ⟨e, _⟩ | e
      · rw [e] at q; exact absurd q (show ¬ (1 : Int32).toInt = 0 by decide)
      · exact e
    have hF1 : ¬ lc_hit off W c ∧ lc_hit on W c ∧ ∀ j, j < i → dg c j ≠ 2 → lc_hit off W (lc_up c j) := by
      rcases hF with ⟨_, e⟩ | ⟨e, _⟩
      · exact e
      · exact absurd (by rw [e]; rfl) q
    have rest : ∀ (F : Int32) (lv : ab_L), lc_I on off W c (i + 1) F → ab_lk lv 0 = some (.ref 82) → ab_lk lv 1 = some (.int (Int32.ofNat c)) → ab_lk lv 2 = some (.long X) → ab_lk lv 5 = some (.int (Int32.ofNat (3 ^ i))) → ab_lk lv 6 = some (.int (Int32.ofNat i)) → ab_go (d + 1) ab_M_X10_layCubes 112 lv [.int F] h Q := by
      intro F lv hF f0 f1 f2 f5 f6
      refine go_s (pc' := 114) (lv' := (ab_s1 4 (.int F) lv)) (st' := []) (h' := h) rfl rfl rfl ?_
      have f4 : ab_lk (ab_s1 4 (.int F) lv) 4 = some (.int F) := mk_s1s
      have f0 := po_s1_other (v := .int F) (i := 4) f0 (by decide) (fun q => absurd q.1 (by decide))
      have f1 := po_s1_other (v := .int F) (i := 4) f1 (by decide) (fun q => absurd q.1 (by decide))
      have f2 := po_s1_other (v := .int F) (i := 4) f2 (by decide) (fun q => absurd q.1 (by decide))
      have f5 := po_s1_other (v := .int F) (i := 4) f5 (by decide) (fun q => absurd q.1 (by decide))
      have f6 := po_s1_other (v := .int F) (i := 4) f6 (by decide) (fun q => absurd q.1 (by decide))
      generalize ab_s1 4 (.int F) lv = lv1 at f0 f1 f2 f4 f5 f6 ⊢
      refine go_s (pc' := 116) (lv' := lv1) (st' := [.int (Int32.ofNat (3 ^ i))]) (h' := h) rfl rfl (po_ild (nL := 0) f5) ?_
      refine go_s (pc' := 117) (lv' := lv1) (st' := [.int 3, .int (Int32.ofNat (3 ^ i))]) (h' := h) rfl rfl rfl ?_
      refine go_s (pc' := 118) (lv' := lv1) (st' := [.int (Int32.ofNat (3 ^ (i + 1)))]) (h' := h) rfl rfl (by show some (_, _, Value.int (Int32.ofNat (3 ^ i) * Int32.ofNat 3) :: _, _) = _; rw [lc_mul (by omega) (by omega) (by omega), Nat.pow_succ]) ?_
      refine go_s (pc' := 120) (lv' := (ab_s1 5 (.int (Int32.ofNat (3 ^ (i + 1)))) lv1)) (st' := []) (h' := h) rfl rfl rfl ?_
      have f5 : ab_lk (ab_s1 5 (.int (Int32.ofNat (3 ^ (i + 1)))) lv1) 5 = some (.int (Int32.ofNat (3 ^ (i + 1)))) := mk_s1s
      have f0 := po_s1_other (v := .int (Int32.ofNat (3 ^ (i + 1)))) (i := 5) f0 (by decide) (fun q => absurd q.1 (by decide))
      have f1 := po_s1_other (v := .int (Int32.ofNat (3 ^ (i + 1)))) (i := 5) f1 (by decide) (fun q => absurd q.1 (by decide))
      have f2 := po_s1_other (v := .int (Int32.ofNat (3 ^ (i + 1)))) (i := 5) f2 (by decide) (fun q => absurd q.1 (by decide))
      have f4 := po_s1_other (v := .int (Int32.ofNat (3 ^ (i + 1)))) (i := 5) f4 (by decide) (fun q => absurd q.2 (show ¬ (1 : Nat) = 2 by decide))
      have f6 := po_s1_other (v := .int (Int32.ofNat (3 ^ (i + 1)))) (i := 5) f6 (by decide) (fun q => absurd q.1 (by decide))
      generalize ab_s1 5 (.int (Int32.ofNat (3 ^ (i + 1)))) lv1 = lv2 at f0 f1 f2 f4 f5 f6 ⊢
      refine go_s (pc' := 123) (lv' := (ab_s1 6 (.int (Int32.ofNat (i + 1))) lv2)) (st' := []) (h' := h) rfl rfl (mk_inc1 (by decide) (by omega) f6) ?_
      have f6 : ab_lk (ab_s1 6 (.int (Int32.ofNat (i + 1))) lv2) 6 = some (.int (Int32.ofNat (i + 1))) := mk_s1s
      have f0 := po_s1_other (v := .int (Int32.ofNat (i + 1))) (i := 6) f0 (by decide) (fun q => absurd q.1 (by decide))
      have f1 := po_s1_other (v := .int (Int32.ofNat (i + 1))) (i := 6) f1 (by decide) (fun q => absurd q.1 (by decide))
      have f2 := po_s1_other (v := .int (Int32.ofNat (i + 1))) (i := 6) f2 (by decide) (fun q => absurd q.1 (by decide))
      have f4 := po_s1_other (v := .int (Int32.ofNat (i + 1))) (i := 6) f4 (by decide) (fun q => absurd q.1 (by decide))
      have f5 := po_s1_other (v := .int (Int32.ofNat (i + 1))) (i := 6) f5 (by decide) (fun q => absurd q.2 (show ¬ (1 : Nat) = 2 by decide))
      generalize ab_s1 6 (.int (Int32.ofNat (i + 1))) lv2 = lv3 at f0 f1 f2 f4 f5 f6 ⊢
      refine go_goto (off := -67) (tgt := 56) rfl rfl ?_
      exact ih (i + 1) F lv3 (by omega) hF f0 f1 f2 f4 f5 f6
    have hq3 := lc_q (c := c) (i := i) (by omega)
    refine go_s (pc' := 71) (lv' := lv) (st' := [.int (Int32.ofNat c)]) (h' := h) rfl rfl (po_ild (nL := 0) f1) ?_
    refine go_s (pc' := 73) (lv' := lv) (st' := [.int (Int32.ofNat (3 ^ i)), .int (Int32.ofNat c)]) (h' := h) rfl rfl (po_ild (nL := 0) f5) ?_
    refine go_s (pc' := 74) (lv' := lv) (st' := [.int (Int32.ofNat (c / 3 ^ i))]) (h' := h) rfl rfl (by show (if Int32.ofNat (3 ^ i) = 0 then none else some (_, _, Value.int (Int32.ofNat c / Int32.ofNat (3 ^ i)) :: _, _)) = _; rw [if_neg (fun z => by have := congrArg Int32.toInt z; rw [mk_i (by omega)] at this; have e0 : (0 : Int32).toInt = 0 := rfl; omega), lc_div (by omega) (by omega)]) ?_
    refine go_s (pc' := 75) (lv' := lv) (st' := [.int 3, .int (Int32.ofNat (c / 3 ^ i))]) (h' := h) rfl rfl rfl ?_
    refine go_s (pc' := 76) (lv' := lv) (st' := [.int (Int32.ofNat (dg c i))]) (h' := h) rfl rfl (by show (if (3 : Int32) = 0 then none else some (_, _, Value.int (Int32.ofNat (c / 3 ^ i) - Int32.ofNat (c / 3 ^ i) / Int32.ofNat 3 * Int32.ofNat 3) :: _, _)) = _; rw [if_neg (by decide), lc_mod (by omega) (by omega)]; rfl) ?_
    refine go_s (pc' := 78) (lv' := (ab_s1 7 (.int (Int32.ofNat (dg c i))) lv)) (st' := []) (h' := h) rfl rfl rfl ?_
    have f7 : ab_lk (ab_s1 7 (.int (Int32.ofNat (dg c i))) lv) 7 = some (.int (Int32.ofNat (dg c i))) := mk_s1s
    have f0 := po_s1_other (v := .int (Int32.ofNat (dg c i))) (i := 7) f0 (by decide) (fun q => absurd q.1 (by decide))
    have f1 := po_s1_other (v := .int (Int32.ofNat (dg c i))) (i := 7) f1 (by decide) (fun q => absurd q.1 (by decide))
    have f2 := po_s1_other (v := .int (Int32.ofNat (dg c i))) (i := 7) f2 (by decide) (fun q => absurd q.1 (by decide))
    have f4 := po_s1_other (v := .int (Int32.ofNat (dg c i))) (i := 7) f4 (by decide) (fun q => absurd q.1 (by decide))
    have f5 := po_s1_other (v := .int (Int32.ofNat (dg c i))) (i := 7) f5 (by decide) (fun q => absurd q.1 (by decide))
    have f6 := po_s1_other (v := .int (Int32.ofNat (dg c i))) (i := 7) f6 (by decide) (fun q => absurd q.2 (show ¬ (1 : Nat) = 2 by decide))
    generalize ab_s1 7 (.int (Int32.ofNat (dg c i))) lv = lv1 at f0 f1 f2 f4 f5 f6 f7 ⊢
    refine go_s (pc' := 80) (lv' := lv1) (st' := [.int (Int32.ofNat (dg c i))]) (h' := h) rfl rfl (po_ild (nL := 0) f7) ?_
    refine go_s (pc' := 81) (lv' := lv1) (st' := [.int 2, .int (Int32.ofNat (dg c i))]) (h' := h) rfl rfl rfl ?_
    have one : (dg c i ≠ 2 → lc_hit off W (lc_up c i)) → ab_go (d + 1) ab_M_X10_layCubes 107 lv1 [] h Q := fun z => by
      refine go_s (pc' := 108) (lv' := lv1) (st' := [.int 1]) (h' := h) rfl rfl rfl ?_
      refine go_goto (off := 4) (tgt := 112) rfl rfl ?_
      refine rest 1 _ (Or.inl ⟨rfl, hF1.1, hF1.2.1, fun j hj hd => ?_⟩) f0 f1 f2 f5 f6
      by_cases e : j = i
      · rw [e] at hd ⊢; exact z hd
      · exact hF1.2.2 j (by omega) hd
    refine go_ic (c := .eq) (off := 26) (tgt := 107) rfl rfl (fun q => one (fun z => absurd ?_ z)) (fun q => ?_)
    · have q : (Int32.ofNat (dg c i)).toInt = 2 := q
      rw [mk_i (by omega)] at q
      omega
    have h2 : dg c i ≠ 2 := fun z => q (by show (Int32.ofNat (dg c i)).toInt = 2; rw [mk_i (by omega), z]; rfl)
    have hub := lc_upb hW hc (show i < W by omega)
    have hug := lc_upgt h2
    have hue : lc_up c i = c + (2 - dg c i) * 3 ^ i := rfl
    refine go_s (pc' := 85) (lv' := lv1) (st' := [.ref 82]) (h' := h) rfl rfl (ig_ald f0) ?_
    refine go_s (pc' := 86) (lv' := lv1) (st' := [.int (Int32.ofNat c), .ref 82]) (h' := h) rfl rfl (po_ild (nL := 0) f1) ?_
    refine go_s (pc' := 87) (lv' := lv1) (st' := [.int 2, .int (Int32.ofNat c), .ref 82]) (h' := h) rfl rfl rfl ?_
    refine go_s (pc' := 89) (lv' := lv1) (st' := [.int (Int32.ofNat (dg c i)), .int 2, .int (Int32.ofNat c), .ref 82]) (h' := h) rfl rfl (po_ild (nL := 0) f7) ?_
    refine go_s (pc' := 90) (lv' := lv1) (st' := [.int (Int32.ofNat (2 - dg c i)), .int (Int32.ofNat c), .ref 82]) (h' := h) rfl rfl (by show some (_, _, Value.int (Int32.ofNat 2 - Int32.ofNat (dg c i)) :: _, _) = _; rw [lc_sub (by omega) (by omega)]) ?_
    refine go_s (pc' := 92) (lv' := lv1) (st' := [.int (Int32.ofNat (3 ^ i)), .int (Int32.ofNat (2 - dg c i)), .int (Int32.ofNat c), .ref 82]) (h' := h) rfl rfl (po_ild (nL := 0) f5) ?_
    refine go_s (pc' := 93) (lv' := lv1) (st' := [.int (Int32.ofNat ((2 - dg c i) * 3 ^ i)), .int (Int32.ofNat c), .ref 82]) (h' := h) rfl rfl (by show some (_, _, Value.int (Int32.ofNat (2 - dg c i) * Int32.ofNat (3 ^ i)) :: _, _) = _; rw [lc_mul (by omega) (by omega) (by omega)]) ?_
    refine go_s (pc' := 94) (lv' := lv1) (st' := [.int (Int32.ofNat (lc_up c i)), .ref 82]) (h' := h) rfl rfl (by show some (_, _, Value.int (Int32.ofNat c + Int32.ofNat ((2 - dg c i) * 3 ^ i)) :: _, _) = _; rw [lc_add (by omega)]; rfl) ?_
    refine go_c rfl rfl (lc_cal_lev (rest := []) (show 0 ≤ 8 by decide) m.1) rfl (lv_run m hq.1 hW (c := lc_up c i) (by omega) d) (fun r h' hr => ?_)
    obtain ⟨⟨Z, rfl, hZ⟩, rfl⟩ := hr
    have hZ0 := lc_hx (S := off) hW hZ
    show ab_go (d + 1) ab_M_X10_layCubes 97 _ [.long Z] _ Q
    refine go_s (pc' := 98) (lv' := lv1) (st' := [.ref 82, .long Z]) (h' := h') rfl rfl (ig_ald f0) ?_
    refine go_get (ci := 10) (k := 48) rfl m.1 hq.2.2.1 ?_
    refine go_s (pc' := 102) (lv' := lv1) (st' := [.long (Z &&& off)]) (h' := h') rfl rfl rfl ?_
    refine go_s (pc' := 103) (lv' := lv1) (st' := [.long 0, .long (Z &&& off)]) (h' := h') rfl rfl rfl ?_
    refine go_s (pc' := 104) (lv' := lv1) (st' := [.int (lg_cmp (Z &&& off) 0)]) (h' := h') rfl rfl rfl ?_
    refine go_ifl (c := .eq) (off := 7) (tgt := 111) rfl rfl (fun q => ?_) (fun q => one (fun _ => Classical.not_not.mp (fun z => q (lc_0.mpr (hZ0.mpr z)))))
    have hno := hZ0.mp (lc_0.mp q)
    refine go_s (pc' := 112) (lv' := lv1) (st' := [.int 0]) (h' := h') rfl rfl rfl ?_
    exact rest 0 _ (Or.inr ⟨rfl, fun z => hno (z.2.2 i (by omega) h2)⟩) f0 f1 f2 f5 f6
/-- what the cubes so far do -/
def lc_G (on off : Int64) (W c n : Nat) (co : Nat → Int64) (cl : Nat → Int32) : Prop := (∀ k, k < 729 → 0 ≤ (cl k).toInt ∧ (cl k).toInt ≤ 6) ∧ ∀ c', c' < c → lc_prime on off W c' → ∃ k, k < n ∧ ∀ l, l < 2 ^ W → lc_C W c' l → mk_bt on l = true → mk_bt (co k) l = true
theorem lc_G.no {W c n : Nat} {co : Nat → Int64} {cl : Nat → Int32} (g : lc_G on off W c n co cl) (h : ¬ lc_prime on off W c) : lc_G on off W (c + 1) n co cl := ⟨g.1, fun c' hc hp => by
  by_cases e : c' = c
  · rw [e] at hp; exact absurd hp h
  · exact g.2 c' (by omega) hp⟩
theorem lc_G.yes {W c n : Nat} {co : Nat → Int64} {cl : Nat → Int32} (g : lc_G on off W c n co cl) (hW : W ≤ 6) {X : Int64} (hX : lv_X W c (2 ^ W) X) {G : Int32} (hG : 0 ≤ G.toInt ∧ G.toInt ≤ 6) : lc_G on off W (c + 1) (n + 1) (vp_updL co n (X &&& on)) (upd cl n G) := by
  have h2 := lc_p2 hW
  constructor
  · intro k hk
    unfold upd
    split
    · exact hG
    · exact g.1 k (by omega)
  · intro c' hc hp
    by_cases e : c' = c
    · refine ⟨n, by omega, fun l hl hC ho => ?_⟩
      rw [show vp_updL co n (X &&& on) n = X &&& on from if_pos rfl, mk_and, ho, (hX l (by omega)).mpr ⟨hl, by rw [← e]; exact hC⟩]
      rfl
    · obtain ⟨k, hk, hx⟩ := g.2 c' (by omega) hp
      refine ⟨k, by omega, ?_⟩
      rw [show vp_updL co n (X &&& on) k = co k from if_neg (by omega)]
      exact hx
theorem lc_out (hq0 : lc_Q ws0 W on off) (hW : W ≤ 6) (kk : ∀ (h : ab_H) (ws : List Value) (cu : Nat → Int32) (co : Nat → Int64) (cl : Nat → Int32) (n : Nat), n ≤ 729 → lc_M h ws cu co cl → lc_W ws0 ws → lc_F h0 h → ws[49]? = some (.int (Int32.ofNat n)) → lc_G on off W (3 ^ W) n co cl → Q none h) :
    ∀ (r c n : Nat) (h : ab_H) (ws : List Value) (cu : Nat → Int32) (co : Nat → Int64) (cl : Nat → Int32) (lv : ab_L), c + r = 3 ^ W → n ≤ c → lc_M h ws cu co cl → lc_W ws0 ws → lc_F h0 h → ws[49]? = some (.int (Int32.ofNat n)) → lc_G on off W c n co cl → ab_lk lv 0 = some (.ref 82) → ab_lk lv 1 = some (.int (Int32.ofNat c)) → ab_go (d + 1) ab_M_X10_layCubes 7 lv [] h Q := by
  have h3 := lc_p3 hW
  intro r
  induction r with
  | zero =>
    intro c n h ws cu co cl lv hr hn m hw hF h49 hG f0 f1
    have hq := hw.q hq0
    obtain rfl : c = 3 ^ W := hr
    refine go_s (pc' := 8) (lv' := lv) (st' := [.int (Int32.ofNat (3 ^ W))]) (h' := h) rfl rfl (po_ild (nL := 0) f1) ?_
    refine go_s (pc' := 9) (lv' := lv) (st' := [.ref 82, .int (Int32.ofNat (3 ^ W))]) (h' := h) rfl rfl (ig_ald f0) ?_
    refine go_c rfl rfl (lc_cal_all (rest := [.int (Int32.ofNat (3 ^ W))]) (show 1 + 0 ≤ 8 by decide) m.1) rfl (al_run ⟨m.1, trivial⟩ hq.1 hW d) (fun r h' hr => ?_)
    obtain ⟨rfl, rfl⟩ := hr
    show ab_go (d + 1) ab_M_X10_layCubes 12 _ [.int (Int32.ofNat (3 ^ W)), .int (Int32.ofNat (3 ^ W))] _ Q
    refine go_ic (c := .ge) (off := 174) (tgt := 186) rfl rfl (fun _ => ?_) (fun q => absurd (Int.le_refl _) q)
    exact go_rv rfl rfl (kk h' ws cu co cl n (by omega) m hw hF h49 hG)
  | succ r ih =>
    intro c n h ws cu co cl lv hr hn m hw hF h49 hG f0 f1
    have hq := hw.q hq0
    refine go_s (pc' := 8) (lv' := lv) (st' := [.int (Int32.ofNat c)]) (h' := h) rfl rfl (po_ild (nL := 0) f1) ?_
    refine go_s (pc' := 9) (lv' := lv) (st' := [.ref 82, .int (Int32.ofNat c)]) (h' := h) rfl rfl (ig_ald f0) ?_
    refine go_c rfl rfl (lc_cal_all (rest := [.int (Int32.ofNat c)]) (show 1 + 0 ≤ 8 by decide) m.1) rfl (al_run ⟨m.1, trivial⟩ hq.1 hW d) (fun r h' hr => ?_)
    obtain ⟨rfl, rfl⟩ := hr
    show ab_go (d + 1) ab_M_X10_layCubes 12 _ [.int (Int32.ofNat (3 ^ W)), .int (Int32.ofNat c)] _ Q
    refine go_ic (c := .ge) (off := 174) (tgt := 186) rfl rfl (fun q => absurd (show (Int32.ofNat (3 ^ W)).toInt ≤ (Int32.ofNat c).toInt from q) (by rw [mk_i (by omega), mk_i (by omega)]; omega)) (fun _ => ?_)
    refine go_s (pc' := 16) (lv' := lv) (st' := [.ref 82]) (h' := h') rfl rfl (ig_ald f0) ?_
    refine go_s (pc' := 17) (lv' := lv) (st' := [.int (Int32.ofNat c), .ref 82]) (h' := h') rfl rfl (po_ild (nL := 0) f1) ?_
    refine go_c rfl rfl (lc_cal_lev (rest := []) (show 0 ≤ 8 by decide) m.1) rfl (lv_run ⟨m.1, trivial⟩ hq.1 hW (c := c) (by omega) d) (fun r h2 hr => ?_)
    obtain ⟨⟨X, rfl, hX⟩, rfl⟩ := hr
    have hXf := lc_hx (S := off) hW hX
    have hXn := lc_hx (S := on) hW hX
    show ab_go (d + 1) ab_M_X10_layCubes 20 _ [.long X] _ Q
    refine go_s (pc' := 21) (lv' := (ab_s2 2 (.long X) lv)) (st' := []) (h' := h2) rfl rfl rfl ?_
    have f2 : ab_lk (ab_s2 2 (.long X) lv) 2 = some (.long X) := mk_s2s
    have f0 := mk_s2o (v := .long X) (i := 2) f0 (by decide) (by decide) (fun q => absurd q.1 (by decide))
    have f1 := mk_s2o (v := .long X) (i := 2) f1 (by decide) (by decide) (fun q => absurd q.2 (show ¬ (1 : Nat) = 2 by decide))
    generalize ab_s2 2 (.long X) lv = lv1 at f0 f1 f2 ⊢
    have fin : ∀ (F : Int32) (lv : ab_L), ((F = 1 ∧ lc_prime on off W c) ∨ (F = 0 ∧ ¬ lc_prime on off W c)) → ab_lk lv 0 = some (.ref 82) → ab_lk lv 1 = some (.int (Int32.ofNat c)) → ab_lk lv 2 = some (.long X) → ab_lk lv 4 = some (.int F) → ab_go (d + 1) ab_M_X10_layCubes 126 lv [] h2 Q := by
      intro F lv hP f0 f1 f2 f4
      refine go_s (pc' := 128) (lv' := lv) (st' := [.int F]) (h' := h2) rfl rfl (po_ild (nL := 0) f4) ?_
      refine go_if (c := .eq) (off := 52) (tgt := 180) rfl rfl (fun q => ?_) (fun q => ?_)
      · refine go_s (pc' := 183) (lv' := (ab_s1 1 (.int (Int32.ofNat (c + 1))) lv)) (st' := []) (h' := h2) rfl rfl (mk_inc1 (by decide) (by omega) f1) ?_
        have f1 : ab_lk (ab_s1 1 (.int (Int32.ofNat (c + 1))) lv) 1 = some (.int (Int32.ofNat (c + 1))) := mk_s1s
        have f0 := po_s1_other (v := .int (Int32.ofNat (c + 1))) (i := 1) f0 (by decide) (fun q => absurd q.2 (show ¬ (1 : Nat) = 2 by decide))
        have f2 := po_s1_other (v := .int (Int32.ofNat (c + 1))) (i := 1) f2 (by decide) (fun q => absurd q.1 (by decide))
        have f4 := po_s1_other (v := .int (Int32.ofNat (c + 1))) (i := 1) f4 (by decide) (fun q => absurd q.1 (by decide))
        generalize ab_s1 1 (.int (Int32.ofNat (c + 1))) lv = lv1 at f0 f1 f2 f4 ⊢
        refine go_goto (off := -176) (tgt := 7) rfl rfl ?_
        have hP : ¬ lc_prime on off W c := by
          rcases hP with ⟨e, _⟩ | ⟨_, e⟩
          · rw [e] at q; exact absurd q (show ¬ (1 : Int32).toInt = 0 by decide)
          · exact e
        exact ih (c + 1) n h2 ws cu co cl lv1 (by omega) (by omega) m hw hF h49 (hG.no hP) f0 f1
      refine go_s (pc' := 132) (lv' := lv) (st' := [.ref 82]) (h' := h2) rfl rfl (ig_ald f0) ?_
      refine go_get (ci := 10) (k := 50) rfl m.1 hq.2.2.2.1 ?_
      refine go_s (pc' := 136) (lv' := lv) (st' := [.ref 82, .ref 103]) (h' := h2) rfl rfl (ig_ald f0) ?_
      refine go_get (ci := 10) (k := 49) rfl m.1 h49 ?_
      refine go_s (pc' := 140) (lv' := lv) (st' := [.int (Int32.ofNat c), .int (Int32.ofNat n), .ref 103]) (h' := h2) rfl rfl (po_ild (nL := 0) f1) ?_
      refine go_ias rfl m.2.1 (mk_ix (by omega) (by omega)) (by decide) ?_
      rw [mk_cl (show n < 2147483648 by omega)]
      have m1 := m.w103 (upd cu n (Int32.ofNat c))
      refine go_s (pc' := 142) (lv' := lv) (st' := [.ref 82]) (h' := (ab_wr h2 103 (.inl (0, 729, .inl (upd cu n (Int32.ofNat c)))))) rfl rfl (ig_ald f0) ?_
      refine go_get (ci := 10) (k := 51) rfl m1.1 hq.2.2.2.2.1 ?_
      refine go_s (pc' := 146) (lv' := lv) (st' := [.ref 82, .ref 104]) (h' := (ab_wr h2 103 (.inl (0, 729, .inl (upd cu n (Int32.ofNat c)))))) rfl rfl (ig_ald f0) ?_
      refine go_get (ci := 10) (k := 49) rfl m1.1 h49 ?_
      refine go_s (pc' := 150) (lv' := lv) (st' := [.long X, .int (Int32.ofNat n), .ref 104]) (h' := (ab_wr h2 103 (.inl (0, 729, .inl (upd cu n (Int32.ofNat c)))))) rfl rfl (mk_lld f2) ?_
      refine go_s (pc' := 151) (lv' := lv) (st' := [.ref 82, .long X, .int (Int32.ofNat n), .ref 104]) (h' := (ab_wr h2 103 (.inl (0, 729, .inl (upd cu n (Int32.ofNat c)))))) rfl rfl (ig_ald f0) ?_
      refine go_get (ci := 10) (k := 47) rfl m1.1 hq.2.1 ?_
      refine go_s (pc' := 155) (lv' := lv) (st' := [.long (X &&& on), .int (Int32.ofNat n), .ref 104]) (h' := (ab_wr h2 103 (.inl (0, 729, .inl (upd cu n (Int32.ofNat c)))))) rfl rfl rfl ?_
      refine go_las rfl m1.2.2.1 (mk_ix (by omega) (by omega)) (by decide) ?_
      rw [mk_cl (show n < 2147483648 by omega)]
      have m2 := m1.w104 (vp_updL co n (X &&& on))
      refine go_s (pc' := 157) (lv' := lv) (st' := [.ref 82]) (h' := (ab_wr (ab_wr h2 103 (.inl (0, 729, .inl (upd cu n (Int32.ofNat c))))) 104 (.inl (2, 729, .inr (.inl (vp_updL co n (X &&& on))))))) rfl rfl (ig_ald f0) ?_
      refine go_get (ci := 10) (k := 52) rfl m2.1 hq.2.2.2.2.2.1 ?_
      refine go_s (pc' := 161) (lv' := lv) (st' := [.ref 82, .ref 105]) (h' := (ab_wr (ab_wr h2 103 (.inl (0, 729, .inl (upd cu n (Int32.ofNat c))))) 104 (.inl (2, 729, .inr (.inl (vp_updL co n (X &&& on))))))) rfl rfl (ig_ald f0) ?_
      refine go_get (ci := 10) (k := 49) rfl m2.1 h49 ?_
      refine go_s (pc' := 165) (lv' := lv) (st' := [.ref 82, .int (Int32.ofNat n), .ref 105]) (h' := (ab_wr (ab_wr h2 103 (.inl (0, 729, .inl (upd cu n (Int32.ofNat c))))) 104 (.inl (2, 729, .inr (.inl (vp_updL co n (X &&& on))))))) rfl rfl (ig_ald f0) ?_
      refine go_s (pc' := 166) (lv' := lv) (st' := [.int (Int32.ofNat c), .ref 82, .int (Int32.ofNat n), .ref 105]) (h' := (ab_wr (ab_wr h2 103 (.inl (0, 729, .inl (upd cu n (Int32.ofNat c))))) 104 (.inl (2, 729, .inr (.inl (vp_updL co n (X &&& on))))))) rfl rfl (po_ild (nL := 0) f1) ?_
      refine go_c rfl rfl (lc_cal_let (rest := [.int (Int32.ofNat n), .ref 105]) (show 1 + (1 + 0) ≤ 8 by decide) m2.1) rfl (ls_run ⟨m2.1, trivial⟩ hq.1 hW (c := c) (by omega) d) (fun r h3 hr => ?_)
      obtain ⟨⟨G, rfl, hG6⟩, rfl⟩ := hr
      show ab_go (d + 1) ab_M_X10_layCubes 169 _ [.int G, .int (Int32.ofNat n), .ref 105] _ Q
      refine go_ias rfl m2.2.2.2 (mk_ix (by omega) (by omega)) (by decide) ?_
      rw [mk_cl (show n < 2147483648 by omega)]
      have m3 := m2.w105 (upd cl n G)
      refine go_s (pc' := 171) (lv' := lv) (st' := [.ref 82]) (h' := (ab_wr (ab_wr (ab_wr h2 103 (.inl (0, 729, .inl (upd cu n (Int32.ofNat c))))) 104 (.inl (2, 729, .inr (.inl (vp_updL co n (X &&& on)))))) 105 (.inl (0, 729, .inl (upd cl n G))))) rfl rfl (ig_ald f0) ?_
      refine go_s (pc' := 172) (lv' := lv) (st' := [.ref 82, .ref 82]) (h' := (ab_wr (ab_wr (ab_wr h2 103 (.inl (0, 729, .inl (upd cu n (Int32.ofNat c))))) 104 (.inl (2, 729, .inr (.inl (vp_updL co n (X &&& on)))))) 105 (.inl (0, 729, .inl (upd cl n G))))) rfl rfl rfl ?_
      refine go_get (ci := 10) (k := 49) rfl m3.1 h49 ?_
      refine go_s (pc' := 176) (lv' := lv) (st' := [.int 1, .int (Int32.ofNat n), .ref 82]) (h' := (ab_wr (ab_wr (ab_wr h2 103 (.inl (0, 729, .inl (upd cu n (Int32.ofNat c))))) 104 (.inl (2, 729, .inr (.inl (vp_updL co n (X &&& on)))))) 105 (.inl (0, 729, .inl (upd cl n G))))) rfl rfl rfl ?_
      refine go_s (pc' := 177) (lv' := lv) (st' := [.int (Int32.ofNat (n + 1)), .ref 82]) (h' := (ab_wr (ab_wr (ab_wr h2 103 (.inl (0, 729, .inl (upd cu n (Int32.ofNat c))))) 104 (.inl (2, 729, .inr (.inl (vp_updL co n (X &&& on)))))) 105 (.inl (0, 729, .inl (upd cl n G))))) rfl rfl (by show some (_, _, Value.int (Int32.ofNat n + Int32.ofInt 1) :: _, _) = _; rw [mk_inc (by omega)]) ?_
      refine go_put rfl m3.1 (show 49 < ws.length from hq.2.2.2.2.2.2) lm_fit ?_
      refine go_s (pc' := 183) (lv' := (ab_s1 1 (.int (Int32.ofNat (c + 1))) lv)) (st' := []) (h' := (ab_wr (ab_wr (ab_wr (ab_wr h2 103 (.inl (0, 729, .inl (upd cu n (Int32.ofNat c))))) 104 (.inl (2, 729, .inr (.inl (vp_updL co n (X &&& on)))))) 105 (.inl (0, 729, .inl (upd cl n G)))) 82 (.inr (10, ws.set 49 (.int (Int32.ofNat (n + 1))))))) rfl rfl (mk_inc1 (by decide) (by omega) f1) ?_
      have f1 : ab_lk (ab_s1 1 (.int (Int32.ofNat (c + 1))) lv) 1 = some (.int (Int32.ofNat (c + 1))) := mk_s1s
      have f0 := po_s1_other (v := .int (Int32.ofNat (c + 1))) (i := 1) f0 (by decide) (fun q => absurd q.2 (show ¬ (1 : Nat) = 2 by decide))
      have f2 := po_s1_other (v := .int (Int32.ofNat (c + 1))) (i := 1) f2 (by decide) (fun q => absurd q.1 (by decide))
      have f4 := po_s1_other (v := .int (Int32.ofNat (c + 1))) (i := 1) f4 (by decide) (fun q => absurd q.1 (by decide))
      generalize ab_s1 1 (.int (Int32.ofNat (c + 1))) lv = lv1 at f0 f1 f2 f4 ⊢
      refine go_goto (off := -176) (tgt := 7) rfl rfl ?_
      exact ih (c + 1) (n + 1) _ _ _ _ _ lv1 (by omega) (by omega) (m3.w82 _) (hw.st _) ((((hF.wr (by decide) _).wr (by decide) _).wr (by decide) _).wr (by decide) _) (List.getElem?_set_self hq.2.2.2.2.2.2) (hG.yes hW hX hG6) f0 f1
    have inn : ∀ (F : Int32) (lv : ab_L), lc_I on off W c 0 F → ab_lk lv 0 = some (.ref 82) → ab_lk lv 1 = some (.int (Int32.ofNat c)) → ab_lk lv 2 = some (.long X) → ab_go (d + 1) ab_M_X10_layCubes 48 lv [.int F] h2 Q := by
      intro F lv hP f0 f1 f2
      refine go_s (pc' := 50) (lv' := (ab_s1 4 (.int F) lv)) (st' := []) (h' := h2) rfl rfl rfl ?_
      have f4 : ab_lk (ab_s1 4 (.int F) lv) 4 = some (.int F) := mk_s1s
      have f0 := po_s1_other (v := .int F) (i := 4) f0 (by decide) (fun q => absurd q.1 (by decide))
      have f1 := po_s1_other (v := .int F) (i := 4) f1 (by decide) (fun q => absurd q.1 (by decide))
      have f2 := po_s1_other (v := .int F) (i := 4) f2 (by decide) (fun q => absurd q.1 (by decide))
      generalize ab_s1 4 (.int F) lv = lv1 at f0 f1 f2 f4 ⊢
      refine go_s (pc' := 51) (lv' := lv1) (st' := [.int 1]) (h' := h2) rfl rfl rfl ?_
      refine go_s (pc' := 53) (lv' := (ab_s1 5 (.int 1) lv1)) (st' := []) (h' := h2) rfl rfl rfl ?_
      have f5 : ab_lk (ab_s1 5 (.int 1) lv1) 5 = some (.int 1) := mk_s1s
      have f0 := po_s1_other (v := .int 1) (i := 5) f0 (by decide) (fun q => absurd q.1 (by decide))
      have f1 := po_s1_other (v := .int 1) (i := 5) f1 (by decide) (fun q => absurd q.1 (by decide))
      have f2 := po_s1_other (v := .int 1) (i := 5) f2 (by decide) (fun q => absurd q.1 (by decide))
      have f4 := po_s1_other (v := .int 1) (i := 5) f4 (by decide) (fun q => absurd q.2 (show ¬ (1 : Nat) = 2 by decide))
      generalize ab_s1 5 (.int 1) lv1 = lv2 at f0 f1 f2 f4 f5 ⊢
      refine go_s (pc' := 54) (lv' := lv2) (st' := [.int 0]) (h' := h2) rfl rfl rfl ?_
      refine go_s (pc' := 56) (lv' := (ab_s1 6 (.int 0) lv2)) (st' := []) (h' := h2) rfl rfl rfl ?_
      have f6 : ab_lk (ab_s1 6 (.int 0) lv2) 6 = some (.int 0) := mk_s1s
      have f0 := po_s1_other (v := .int 0) (i := 6) f0 (by decide) (fun q => absurd q.1 (by decide))
      have f1 := po_s1_other (v := .int 0) (i := 6) f1 (by decide) (fun q => absurd q.1 (by decide))
      have f2 := po_s1_other (v := .int 0) (i := 6) f2 (by decide) (fun q => absurd q.1 (by decide))
      have f4 := po_s1_other (v := .int 0) (i := 6) f4 (by decide) (fun q => absurd q.1 (by decide))
      have f5 := po_s1_other (v := .int 0) (i := 6) f5 (by decide) (fun q => absurd q.2 (show ¬ (1 : Nat) = 2 by decide))
      generalize ab_s1 6 (.int 0) lv2 = lv3 at f0 f1 f2 f4 f5 f6 ⊢
      exact lc_in ⟨m.1, trivial⟩ hq hW (by omega) fin W 0 F lv3 (by omega) hP f0 f1 f2 f4 f5 f6
    have zero : ¬ lc_prime on off W c → ab_go (d + 1) ab_M_X10_layCubes 47 lv1 [] h2 Q := fun z => by
      refine go_s (pc' := 48) (lv' := lv1) (st' := [.int 0]) (h' := h2) rfl rfl rfl ?_
      exact inn 0 _ (Or.inr ⟨rfl, z⟩) f0 f1 f2
    refine go_s (pc' := 22) (lv' := lv1) (st' := [.long X]) (h' := h2) rfl rfl (mk_lld f2) ?_
    refine go_s (pc' := 23) (lv' := lv1) (st' := [.ref 82, .long X]) (h' := h2) rfl rfl (ig_ald f0) ?_
    refine go_get (ci := 10) (k := 48) rfl m.1 hq.2.2.1 ?_
    refine go_s (pc' := 27) (lv' := lv1) (st' := [.long (X &&& off)]) (h' := h2) rfl rfl rfl ?_
    refine go_s (pc' := 28) (lv' := lv1) (st' := [.long 0, .long (X &&& off)]) (h' := h2) rfl rfl rfl ?_
    refine go_s (pc' := 29) (lv' := lv1) (st' := [.int (lg_cmp (X &&& off) 0)]) (h' := h2) rfl rfl rfl ?_
    refine go_ifl (c := .ne) (off := 18) (tgt := 47) rfl rfl (fun q => zero (fun z => q (lc_0.mpr (hXf.mpr z.1)))) (fun q => ?_)
    refine go_s (pc' := 33) (lv' := lv1) (st' := [.long X]) (h' := h2) rfl rfl (mk_lld f2) ?_
    refine go_s (pc' := 34) (lv' := lv1) (st' := [.ref 82, .long X]) (h' := h2) rfl rfl (ig_ald f0) ?_
    refine go_get (ci := 10) (k := 47) rfl m.1 hq.2.1 ?_
    refine go_s (pc' := 38) (lv' := lv1) (st' := [.long (X &&& on)]) (h' := h2) rfl rfl rfl ?_
    refine go_s (pc' := 39) (lv' := lv1) (st' := [.long 0, .long (X &&& on)]) (h' := h2) rfl rfl rfl ?_
    refine go_s (pc' := 40) (lv' := lv1) (st' := [.int (lg_cmp (X &&& on) 0)]) (h' := h2) rfl rfl rfl ?_
    refine go_ifl (c := .eq) (off := 7) (tgt := 47) rfl rfl (fun q2 => zero (fun z => hXn.mp (lc_0.mp q2) z.2.1)) (fun q2 => ?_)
    refine go_s (pc' := 44) (lv' := lv1) (st' := [.int 1]) (h' := h2) rfl rfl rfl ?_
    refine go_goto (off := 4) (tgt := 48) rfl rfl ?_
    exact inn 1 _ (Or.inl ⟨rfl, hXf.mp (lc_0.mp (Classical.not_not.mp q)), Classical.not_not.mp (fun z => q2 (lc_0.mpr (hXn.mpr z))), fun j hj => absurd hj (Nat.not_lt_zero _)⟩) f0 f1 f2
/-- the whole call -/
theorem lc_run {cu : Nat → Int32} {co : Nat → Int64} {cl : Nat → Int32} (hq0 : lc_Q ws0 W on off) (hW : W ≤ 6) (m : lc_M h0 ws0 cu co cl) (hcl : ∀ k, k < 729 → 0 ≤ (cl k).toInt ∧ (cl k).toInt ≤ 6) (d : Nat) : ab_go (d + 1) ab_M_X10_layCubes 0 [(0, .ref 82)] [] h0 (fun r h' => r = none ∧ ∃ (ws : List Value) (cu : Nat → Int32) (co : Nat → Int64) (cl : Nat → Int32) (n : Nat), n ≤ 729 ∧ lc_M h' ws cu co cl ∧ lc_W ws0 ws ∧ lc_F h0 h' ∧ ws[49]? = some (.int (Int32.ofNat n)) ∧ lc_G on off W (3 ^ W) n co cl) := by
  have f0 : ab_lk [(0, Value.ref 82)] 0 = some (.ref 82) := rfl
  generalize [(0, Value.ref 82)] = lv at f0 ⊢
  refine go_s (pc' := 1) (lv' := lv) (st' := [.ref 82]) (h' := h0) rfl rfl (ig_ald f0) ?_
  refine go_s (pc' := 2) (lv' := lv) (st' := [.int 0, .ref 82]) (h' := h0) rfl rfl rfl ?_
  refine go_put rfl m.1 (show 49 < ws0.length from hq0.2.2.2.2.2.2) lm_fit ?_
  refine go_s (pc' := 6) (lv' := lv) (st' := [.int 0]) (h' := (ab_wr h0 82 (.inr (10, ws0.set 49 (.int 0))))) rfl rfl rfl ?_
  refine go_s (pc' := 7) (lv' := (ab_s1 1 (.int 0) lv)) (st' := []) (h' := (ab_wr h0 82 (.inr (10, ws0.set 49 (.int 0))))) rfl rfl rfl ?_
  have f1 : ab_lk (ab_s1 1 (.int 0) lv) 1 = some (.int 0) := mk_s1s
  have f0 := po_s1_other (v := .int 0) (i := 1) f0 (by decide) (fun q => absurd q.2 (show ¬ (1 : Nat) = 2 by decide))
  generalize ab_s1 1 (.int 0) lv = lv1 at f0 f1 ⊢
  refine lc_out (h0 := h0) hq0 hW (fun h ws cu co cl n h1 h2 h3 h4 h5 h6 => ⟨rfl, ws, cu, co, cl, n, h1, h2, h3, h4, h5, h6⟩) (3 ^ W) 0 0 _ _ cu co cl lv1 (by omega) (Nat.le_refl _) (m.w82 _) (lc_W.st ⟨rfl, fun _ _ => rfl⟩ _) (lc_F.wr ⟨rfl, rfl, fun _ _ _ _ _ => rfl⟩ (by decide) _) (List.getElem?_set_self hq0.2.2.2.2.2.2) ⟨hcl, fun c hc => absurd hc (Nat.not_lt_zero _)⟩ f0 f1
end LC
