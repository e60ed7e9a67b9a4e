/-! ===== cubeAll, lettersOf, levelsOf ===== -/
section LV
variable {d : Nat} {h : ab_H} {ws : List Value} {W : Nat} {Q : Option Value → ab_H → Prop}
theorem go_rl {M : ab_M} {pc : Nat} {lv : ab_L} {v : Int64} (h1 : ab_at M.2.2.2.2.2 pc = some (ab_r .lreturn 1)) (hr : M.2.2.2.1 = some .long) (k : Q (some (.long v)) h) : ab_go d M pc lv [.long v] h Q := by
  refine ⟨1, _, _, ?_, k⟩
  unfold ab_ex
  simp only [h1]
  show ab_rt M (ab_r .lreturn 1) [.long v] h = _
  unfold ab_rt
  simp only [ab_r, hr]
  exact if_pos trivial
theorem lc_pw {i : Nat} (hi : i < 6) : 3 ^ i ≤ 243 := Nat.pow_le_pow_right (n := 3) (by decide) (show i ≤ 5 by omega)
theorem lc_q {c i : Nat} (hc : c < 1000) : c / 3 ^ i < 1000 := Nat.lt_of_le_of_lt (Nat.div_le_self _ _) hc
theorem lc_qs (c i : Nat) : c / 3 ^ i / 3 = c / 3 ^ (i + 1) := by rw [Nat.div_div_eq_div_mul, Nat.pow_succ]
theorem al_loop (m : ab_rd h 82 = some (.inr (10, ws)) ∧ True) (hW0 : ws[0]? = some (.int (Int32.ofNat W))) (hW : W ≤ 6) (kk : Q (some (.int (Int32.ofNat (3 ^ W)))) h) : ∀ (r i : Nat) (lv : ab_L), i + r = W → ab_lk lv 0 = some (.ref 82) → ab_lk lv 1 = some (.int (Int32.ofNat (3 ^ i))) → ab_lk lv 2 = some (.int (Int32.ofNat i)) → ab_go d ab_M_X10_cubeAll 4 lv [] h Q := by
  intro r
  induction r with
  | zero =>
    intro i lv hr f0 f1 f2
    obtain rfl : i = W := hr
    refine go_s (pc' := 5) (lv' := lv) (st' := [.int (Int32.ofNat i)]) (h' := h) rfl rfl (po_ild (nL := 0) f2) ?_
    refine go_s (pc' := 6) (lv' := lv) (st' := [.ref 82, .int (Int32.ofNat i)]) (h' := h) rfl rfl (ig_ald f0) ?_
    refine go_get (ci := 10) (k := 0) rfl m.1 hW0 ?_
    refine go_ic (c := .ge) (off := 13) (tgt := 22) rfl rfl (fun _ => ?_) (fun q => absurd (Int.le_refl _) q)
    refine go_s (pc' := 23) (lv' := lv) (st' := [.int (Int32.ofNat (3 ^ i))]) (h' := h) rfl rfl (po_ild (nL := 0) f1) ?_
    exact go_ri rfl rfl kk
  | succ r ih =>
    intro i lv hr f0 f1 f2
    have hp := lc_pw (show i < 6 by omega)
    refine go_s (pc' := 5) (lv' := lv) (st' := [.int (Int32.ofNat i)]) (h' := h) rfl rfl (po_ild (nL := 0) f2) ?_
    refine go_s (pc' := 6) (lv' := lv) (st' := [.ref 82, .int (Int32.ofNat i)]) (h' := h) rfl rfl (ig_ald f0) ?_
    refine go_get (ci := 10) (k := 0) rfl m.1 hW0 ?_
    refine go_ic (c := .ge) (off := 13) (tgt := 22) rfl rfl (fun q => absurd (show (Int32.ofNat W).toInt ≤ (Int32.ofNat i).toInt from q) (by rw [mk_i (by omega), mk_i (by omega)]; omega)) (fun _ => ?_)
    refine go_s (pc' := 13) (lv' := lv) (st' := [.int (Int32.ofNat (3 ^ i))]) (h' := h) rfl rfl (po_ild (nL := 0) f1) ?_
    refine go_s (pc' := 14) (lv' := lv) (st' := [.int 3, .int (Int32.ofNat (3 ^ i))]) (h' := h) rfl rfl rfl ?_
    refine go_s (pc' := 15) (lv' := lv) (st' := [.int (Int32.ofNat (3 ^ (i + 1)))]) (h' := h) rfl rfl (by show some (_, _, Value.int (Int32.ofNat (3 ^ i) * Int32.ofNat 3) :: _, _) = _; rw [lc_mul (by omega) (by omega) (by omega), Nat.pow_succ]) ?_
    refine go_s (pc' := 16) (lv' := (ab_s1 1 (.int (Int32.ofNat (3 ^ (i + 1)))) lv)) (st' := []) (h' := h) rfl rfl rfl ?_
    have f1 : ab_lk (ab_s1 1 (.int (Int32.ofNat (3 ^ (i + 1)))) lv) 1 = some (.int (Int32.ofNat (3 ^ (i + 1)))) := mk_s1s
    have f0 := po_s1_other (v := .int (Int32.ofNat (3 ^ (i + 1)))) (i := 1) f0 (by decide) (fun q => absurd q.2 (show ¬ (1 : Nat) = 2 by decide))
    have f2 := po_s1_other (v := .int (Int32.ofNat (3 ^ (i + 1)))) (i := 1) f2 (by decide) (fun q => absurd q.1 (by decide))
    generalize ab_s1 1 (.int (Int32.ofNat (3 ^ (i + 1)))) lv = lv1 at f0 f1 f2 ⊢
    refine go_s (pc' := 19) (lv' := (ab_s1 2 (.int (Int32.ofNat (i + 1))) lv1)) (st' := []) (h' := h) rfl rfl (mk_inc1 (by decide) (by omega) f2) ?_
    have f2 : ab_lk (ab_s1 2 (.int (Int32.ofNat (i + 1))) lv1) 2 = some (.int (Int32.ofNat (i + 1))) := mk_s1s
    have f0 := po_s1_other (v := .int (Int32.ofNat (i + 1))) (i := 2) f0 (by decide) (fun q => absurd q.1 (by decide))
    have f1 := po_s1_other (v := .int (Int32.ofNat (i + 1))) (i := 2) f1 (by decide) (fun q => absurd q.2 (show ¬ (1 : Nat) = 2 by decide))
    generalize ab_s1 2 (.int (Int32.ofNat (i + 1))) lv1 = lv2 at f0 f1 f2 ⊢
    refine go_goto (off := -15) (tgt := 4) rfl rfl ?_
    exact ih (i + 1) lv2 (by omega) f0 f1 f2
theorem al_run (m : ab_rd h 82 = some (.inr (10, ws)) ∧ True) (hW0 : ws[0]? = some (.int (Int32.ofNat W))) (hW : W ≤ 6) (d : Nat) : ab_go d ab_M_X10_cubeAll 0 [(0, .ref 82)] [] h (fun r h' => r = some (.int (Int32.ofNat (3 ^ W))) ∧ h' = h) := by
  have f0 : ab_lk [(0, Value.ref 82)] 0 = some (.ref 82) := rfl
  generalize [(0, Value.ref 82)] = lv at f0 ⊢
  refine go_s (pc' := 1) (lv' := lv) (st' := [.int 1]) (h' := h) rfl rfl rfl ?_
  refine go_s (pc' := 2) (lv' := (ab_s1 1 (.int 1) lv)) (st' := []) (h' := h) rfl rfl rfl ?_
  have f1 : ab_lk (ab_s1 1 (.int 1) lv) 1 = some (.int 1) := mk_s1s
  have f0 := po_s1_other (v := .int 1) (i := 1) f0 (by decide) (fun q => absurd q.2 (show ¬ (1 : Nat) = 2 by decide))
  generalize ab_s1 1 (.int 1) lv = lv1 at f0 f1 ⊢
  refine go_s (pc' := 3) (lv' := lv1) (st' := [.int 0]) (h' := h) rfl rfl rfl ?_
  refine go_s (pc' := 4) (lv' := (ab_s1 2 (.int 0) lv1)) (st' := []) (h' := h) rfl rfl rfl ?_
  have f2 : ab_lk (ab_s1 2 (.int 0) lv1) 2 = some (.int 0) := mk_s1s
  have f0 := po_s1_other (v := .int 0) (i := 2) f0 (by decide) (fun q => absurd q.1 (by decide))
  have f1 := po_s1_other (v := .int 0) (i := 2) f1 (by decide) (fun q => absurd q.2 (show ¬ (1 : Nat) = 2 by decide))
  generalize ab_s1 2 (.int 0) lv1 = lv2 at f0 f1 f2 ⊢
  exact al_loop m hW0 hW ⟨rfl, rfl⟩ W 0 lv2 (by omega) f0 f1 f2
theorem ls_loop (m : ab_rd h 82 = some (.inr (10, ws)) ∧ True) (hW0 : ws[0]? = some (.int (Int32.ofNat W))) (hW : W ≤ 6) {c : Nat} (hc : c < 1000) (kk : ∀ G : Int32, 0 ≤ G.toInt → G.toInt ≤ 6 → Q (some (.int G)) h) : ∀ (r i : Nat) (G : Int32) (lv : ab_L), i + r = W → 0 ≤ G.toInt → G.toInt ≤ i → ab_lk lv 0 = some (.ref 82) → ab_lk lv 2 = some (.int G) → ab_lk lv 3 = some (.int (Int32.ofNat (c / 3 ^ i))) → ab_lk lv 4 = some (.int (Int32.ofNat i)) → ab_go d ab_M_X10_lettersOf 7 lv [] h Q := by
  intro r
  induction r with
  | zero =>
    intro i G lv hr h1 h2 f0 f2 f3 f4
    obtain rfl : i = W := hr
    refine go_s (pc' := 9) (lv' := lv) (st' := [.int (Int32.ofNat i)]) (h' := h) rfl rfl (po_ild (nL := 0) f4) ?_
    refine go_s (pc' := 10) (lv' := lv) (st' := [.ref 82, .int (Int32.ofNat i)]) (h' := h) rfl rfl (ig_ald f0) ?_
    refine go_get (ci := 10) (k := 0) rfl m.1 hW0 ?_
    refine go_ic (c := .ge) (off := 28) (tgt := 41) rfl rfl (fun _ => ?_) (fun q => absurd (Int.le_refl _) q)
    refine go_s (pc' := 42) (lv' := lv) (st' := [.int G]) (h' := h) rfl rfl (po_ild (nL := 0) f2) ?_
    exact go_ri rfl rfl (kk G h1 (by omega))
  | succ r ih =>
    intro i G lv hr h1 h2 f0 f2 f3 f4
    have hq := lc_q (i := i) hc
    refine go_s (pc' := 9) (lv' := lv) (st' := [.int (Int32.ofNat i)]) (h' := h) rfl rfl (po_ild (nL := 0) f4) ?_
    refine go_s (pc' := 10) (lv' := lv) (st' := [.ref 82, .int (Int32.ofNat i)]) (h' := h) rfl rfl (ig_ald f0) ?_
    refine go_get (ci := 10) (k := 0) rfl m.1 hW0 ?_
    refine go_ic (c := .ge) (off := 28) (tgt := 41) rfl rfl (fun q => absurd (show (Int32.ofNat W).toInt ≤ (Int32.ofNat i).toInt from q) (by rw [mk_i (by omega), mk_i (by omega)]; omega)) (fun _ => ?_)
    have rest : ∀ (x : Int32) (lv : ab_L), 0 ≤ x.toInt → x.toInt ≤ 1 → ab_lk lv 0 = some (.ref 82) → ab_lk lv 2 = some (.int G) → ab_lk lv 3 = some (.int (Int32.ofNat (c / 3 ^ i))) → ab_lk lv 4 = some (.int (Int32.ofNat i)) → ab_go d ab_M_X10_lettersOf 29 lv [.int x, .int G] h Q := by
      intro x lv x1 x2 f0 f2 f3 f4
      refine go_s (pc' := 30) (lv' := lv) (st' := [.int (G + x)]) (h' := h) rfl rfl rfl ?_
      refine go_s (pc' := 31) (lv' := (ab_s1 2 (.int (G + x)) lv)) (st' := []) (h' := h) rfl rfl rfl ?_
      have f2 : ab_lk (ab_s1 2 (.int (G + x)) lv) 2 = some (.int (G + x)) := mk_s1s
      have f0 := po_s1_other (v := .int (G + x)) (i := 2) f0 (by decide) (fun q => absurd q.1 (by decide))
      have f3 := po_s1_other (v := .int (G + x)) (i := 2) f3 (by decide) (fun q => absurd q.1 (by decide))
      have f4 := po_s1_other (v := .int (G + x)) (i := 2) f4 (by decide) (fun q => absurd q.1 (by decide))
      generalize ab_s1 2 (.int (G + x)) lv = lv1 at f0 f2 f3 f4 ⊢
      refine go_s (pc' := 32) (lv' := lv1) (st' := [.int (Int32.ofNat (c / 3 ^ i))]) (h' := h) rfl rfl (po_ild (nL := 0) f3) ?_
      refine go_s (pc' := 33) (lv' := lv1) (st' := [.int 3, .int (Int32.ofNat (c / 3 ^ i))]) (h' := h) rfl rfl rfl ?_
      refine go_s (pc' := 34) (lv' := lv1) (st' := [.int (Int32.ofNat (c / 3 ^ (i + 1)))]) (h' := h) rfl rfl (by show (if (3 : Int32) = 0 then none else some (_, _, Value.int (Int32.ofNat (c / 3 ^ i) / Int32.ofNat 3) :: _, _)) = _; rw [if_neg (by decide)]; rw [lc_div (by omega) (by omega), lc_qs]) ?_
      refine go_s (pc' := 35) (lv' := (ab_s1 3 (.int (Int32.ofNat (c / 3 ^ (i + 1)))) lv1)) (st' := []) (h' := h) rfl rfl rfl ?_
      have f3 : ab_lk (ab_s1 3 (.int (Int32.ofNat (c / 3 ^ (i + 1)))) lv1) 3 = some (.int (Int32.ofNat (c / 3 ^ (i + 1)))) := mk_s1s
      have f0 := po_s1_other (v := .int (Int32.ofNat (c / 3 ^ (i + 1)))) (i := 3) f0 (by decide) (fun q => absurd q.1 (by decide))
      have f2 := po_s1_other (v := .int (Int32.ofNat (c / 3 ^ (i + 1)))) (i := 3) f2 (by decide) (fun q => absurd q.2 (show ¬ (1 : Nat) = 2 by decide))
      have f4 := po_s1_other (v := .int (Int32.ofNat (c / 3 ^ (i + 1)))) (i := 3) f4 (by decide) (fun q => absurd q.1 (by decide))
      generalize ab_s1 3 (.int (Int32.ofNat (c / 3 ^ (i + 1)))) lv1 = lv2 at f0 f2 f3 f4 ⊢
      refine go_s (pc' := 38) (lv' := (ab_s1 4 (.int (Int32.ofNat (i + 1))) lv2)) (st' := []) (h' := h) rfl rfl (mk_inc1 (by decide) (by omega) f4) ?_
      have f4 : ab_lk (ab_s1 4 (.int (Int32.ofNat (i + 1))) lv2) 4 = some (.int (Int32.ofNat (i + 1))) := mk_s1s
      have f0 := po_s1_other (v := .int (Int32.ofNat (i + 1))) (i := 4) f0 (by decide) (fun q => absurd q.1 (by decide))
      have f2 := po_s1_other (v := .int (Int32.ofNat (i + 1))) (i := 4) f2 (by decide) (fun q => absurd q.1 (by decide))
      have f3 := po_s1_other (v := .int (Int32.ofNat (i + 1))) (i := 4) f3 (by decide) (fun q => absurd q.2 (show ¬ (1 : Nat) = 2 by decide))
      generalize ab_s1 4 (.int (Int32.ofNat (i + 1))) lv2 = lv3 at f0 f2 f3 f4 ⊢
      refine go_goto (off := -31) (tgt := 7) rfl rfl ?_
      have e : (G + x).toInt = G.toInt + x.toInt := by rw [Int32.toInt_add, sx_bm (by omega) (by omega)]
      exact ih (i + 1) (G + x) lv3 (by omega) (by omega) (by omega) f0 f2 f3 f4
    refine go_s (pc' := 17) (lv' := lv) (st' := [.int G]) (h' := h) rfl rfl (po_ild (nL := 0) f2) ?_
    refine go_s (pc' := 18) (lv' := lv) (st' := [.int (Int32.ofNat (c / 3 ^ i)), .int G]) (h' := h) rfl rfl (po_ild (nL := 0) f3) ?_
    refine go_s (pc' := 19) (lv' := lv) (st' := [.int 3, .int (Int32.ofNat (c / 3 ^ i)), .int G]) (h' := h) rfl rfl rfl ?_
    refine go_s (pc' := 20) (lv' := lv) (st' := [.int (Int32.ofNat (dg c i)), .int G]) (h' := h) rfl rfl (by show (if (3 : Int32) = 0 then none else some (_, _, Value.int (Int32.ofNat (c / 3 ^ i) - Int32.ofNat (c / 3 ^ i) / Int32.ofNat 3 * Int32.ofNat 3) :: _, _)) = _; rw [if_neg (by decide)]; rw [lc_mod (by omega) (by omega)]; rfl) ?_
    refine go_s (pc' := 21) (lv' := lv) (st' := [.int 2, .int (Int32.ofNat (dg c i)), .int G]) (h' := h) rfl rfl rfl ?_
    refine go_ic (c := .ge) (off := 7) (tgt := 28) rfl rfl (fun _ => ?_) (fun _ => ?_)
    · refine go_s (pc' := 29) (lv' := lv) (st' := [.int 0, .int G]) (h' := h) rfl rfl rfl ?_
      exact rest 0 lv (by decide) (by decide) f0 f2 f3 f4
    · refine go_s (pc' := 25) (lv' := lv) (st' := [.int 1, .int G]) (h' := h) rfl rfl rfl ?_
      refine go_goto (off := 4) (tgt := 29) rfl rfl ?_
      exact rest 1 lv (by decide) (by decide) f0 f2 f3 f4
theorem ls_run (m : ab_rd h 82 = some (.inr (10, ws)) ∧ True) (hW0 : ws[0]? = some (.int (Int32.ofNat W))) (hW : W ≤ 6) {c : Nat} (hc : c < 1000) (d : Nat) : ab_go d ab_M_X10_lettersOf 0 [(0, .ref 82), (1, .int (Int32.ofNat c))] [] h (fun r h' => (∃ G : Int32, r = some (.int G) ∧ 0 ≤ G.toInt ∧ G.toInt ≤ 6) ∧ h' = h) := by
  have f0 : ab_lk [(0, Value.ref 82), (1, .int (Int32.ofNat c))] 0 = some (.ref 82) := rfl
  have f1 : ab_lk [(0, Value.ref 82), (1, .int (Int32.ofNat c))] 1 = some (.int (Int32.ofNat c)) := rfl
  generalize [(0, Value.ref 82), (1, .int (Int32.ofNat c))] = lv at f0 f1 ⊢
  refine go_s (pc' := 1) (lv' := lv) (st' := [.int 0]) (h' := h) rfl rfl rfl ?_
  refine go_s (pc' := 2) (lv' := (ab_s1 2 (.int 0) lv)) (st' := []) (h' := h) rfl rfl rfl ?_
  have f2 : ab_lk (ab_s1 2 (.int 0) lv) 2 = some (.int 0) := mk_s1s
  have f0 := po_s1_other (v := .int 0) (i := 2) f0 (by decide) (fun q => absurd q.1 (by decide))
  have f1 := po_s1_other (v := .int 0) (i := 2) f1 (by decide) (fun q => absurd q.2 (show ¬ (1 : Nat) = 2 by decide))
  generalize ab_s1 2 (.int 0) lv = lv1 at f0 f1 f2 ⊢
  refine go_s (pc' := 3) (lv' := lv1) (st' := [.int (Int32.ofNat c)]) (h' := h) rfl rfl (po_ild (nL := 0) f1) ?_
  refine go_s (pc' := 4) (lv' := (ab_s1 3 (.int (Int32.ofNat c)) lv1)) (st' := []) (h' := h) rfl rfl rfl ?_
  have f3 : ab_lk (ab_s1 3 (.int (Int32.ofNat c)) lv1) 3 = some (.int (Int32.ofNat c)) := mk_s1s
  have f0 := po_s1_other (v := .int (Int32.ofNat c)) (i := 3) f0 (by decide) (fun q => absurd q.1 (by decide))
  have f1 := po_s1_other (v := .int (Int32.ofNat c)) (i := 3) f1 (by decide) (fun q => absurd q.1 (by decide))
  have f2 := po_s1_other (v := .int (Int32.ofNat c)) (i := 3) f2 (by decide) (fun q => absurd q.2 (show ¬ (1 : Nat) = 2 by decide))
  generalize ab_s1 3 (.int (Int32.ofNat c)) lv1 = lv2 at f0 f1 f2 f3 ⊢
  refine go_s (pc' := 5) (lv' := lv2) (st' := [.int 0]) (h' := h) rfl rfl rfl ?_
  refine go_s (pc' := 7) (lv' := (ab_s1 4 (.int 0) lv2)) (st' := []) (h' := h) rfl rfl rfl ?_
  have f4 : ab_lk (ab_s1 4 (.int 0) lv2) 4 = some (.int 0) := mk_s1s
  have f0 := po_s1_other (v := .int 0) (i := 4) f0 (by decide) (fun q => absurd q.1 (by decide))
  have f1 := po_s1_other (v := .int 0) (i := 4) f1 (by decide) (fun q => absurd q.1 (by decide))
  have f2 := po_s1_other (v := .int 0) (i := 4) f2 (by decide) (fun q => absurd q.1 (by decide))
  have f3 := po_s1_other (v := .int 0) (i := 4) f3 (by decide) (fun q => absurd q.2 (show ¬ (1 : Nat) = 2 by decide))
  generalize ab_s1 4 (.int 0) lv2 = lv3 at f0 f1 f2 f3 f4 ⊢
  exact ls_loop m hW0 hW hc (fun G h1 h2 => ⟨⟨G, rfl, h1, h2⟩, rfl⟩) W 0 0 lv3 (by omega) (by decide) (by decide) f0 f2 (by rw [Nat.pow_zero, Nat.div_one]; exact f3) f4
def lv_F (c l i : Nat) (F : Int32) : Prop := (F = 1 ∧ lc_C i c l) ∨ (F = 0 ∧ ¬ lc_C i c l)
theorem lc_Cs {c l i : Nat} : lc_C (i + 1) c l ↔ lc_C i c l ∧ (dg c i = 2 ∨ dg c i = lc_bt l i) := by
  constructor
  · exact fun q => ⟨fun j hj => q j (by omega), q i (by omega)⟩
  · intro ⟨q1, q2⟩ j hj
    by_cases e : j = i
    · rw [e]; exact q2
    · exact q1 j (by omega)
theorem lv_in (m : ab_rd h 82 = some (.inr (10, ws)) ∧ True) (hW0 : ws[0]? = some (.int (Int32.ofNat W))) (hW : W ≤ 6) {c l : Nat} {X : Int64} (hc : c < 1000) (hl : l < 64) (kk : ∀ (F : Int32) (lv : ab_L), lv_F c l W F → ab_lk lv 0 = some (.ref 82) → ab_lk lv 1 = some (.int (Int32.ofNat c)) → ab_lk lv 2 = some (.long X) → ab_lk lv 4 = some (.int (Int32.ofNat l)) → ab_lk lv 6 = some (.int F) → ab_go d ab_M_X10_levelsOf 82 lv [] h Q) : ∀ (r i : Nat) (F : Int32) (lv : ab_L), i + r = W → lv_F c l i F → ab_lk lv 0 = some (.ref 82) → ab_lk lv 1 = some (.int (Int32.ofNat c)) → ab_lk lv 2 = some (.long X) → ab_lk lv 4 = some (.int (Int32.ofNat l)) → ab_lk lv 5 = some (.int (Int32.ofNat (c / 3 ^ i))) → ab_lk lv 6 = some (.int F) → ab_lk lv 7 = some (.int (Int32.ofNat i)) → ab_go d ab_M_X10_levelsOf 25 lv [] h Q := by
  intro r
  induction r with
  | zero =>
    intro i F lv hr hF f0 f1 f2 f4 f5 f6 f7
    obtain rfl : i = W := hr
    refine go_s (pc' := 27) (lv' := lv) (st' := [.int (Int32.ofNat i)]) (h' := h) rfl rfl (po_ild (nL := 0) f7) ?_
    refine go_s (pc' := 28) (lv' := lv) (st' := [.ref 82, .int (Int32.ofNat i)]) (h' := h) rfl rfl (ig_ald f0) ?_
    refine go_get (ci := 10) (k := 0) rfl m.1 hW0 ?_
    exact go_ic (c := .ge) (off := 51) (tgt := 82) rfl rfl (fun _ => kk F lv hF f0 f1 f2 f4 f6) (fun q => absurd (Int.le_refl _) q)
  | succ r ih =>
    intro i F lv hr hF f0 f1 f2 f4 f5 f6 f7
    have hq := lc_q (i := i) hc
    have hd3 : dg c i < 3 := Nat.mod_lt _ (by decide)
    have hb2 : lc_bt l i < 2 := Nat.mod_lt _ (by decide)
    refine go_s (pc' := 27) (lv' := lv) (st' := [.int (Int32.ofNat i)]) (h' := h) rfl rfl (po_ild (nL := 0) f7) ?_
    refine go_s (pc' := 28) (lv' := lv) (st' := [.ref 82, .int (Int32.ofNat i)]) (h' := h) rfl rfl (ig_ald f0) ?_
    refine go_get (ci := 10) (k := 0) rfl m.1 hW0 ?_
    refine go_ic (c := .ge) (off := 51) (tgt := 82) rfl rfl (fun q => absurd (show (Int32.ofNat W).toInt ≤ (Int32.ofNat i).toInt from q) (by rw [mk_i (by omega), mk_i (by omega)]; omega)) (fun _ => ?_)
    have rest : ∀ (F : Int32) (lv : ab_L), lv_F c l (i + 1) F → ab_lk lv 0 = some (.ref 82) → ab_lk lv 1 = some (.int (Int32.ofNat c)) → ab_lk lv 2 = some (.long X) → ab_lk lv 4 = some (.int (Int32.ofNat l)) → ab_lk lv 5 = some (.int (Int32.ofNat (c / 3 ^ (i + 1)))) → ab_lk lv 7 = some (.int (Int32.ofNat i)) → ab_lk lv 8 = some (.int (Int32.ofNat (dg c i))) → ab_go d ab_M_X10_levelsOf 74 lv [.int F] h Q := by
      intro F lv hF f0 f1 f2 f4 f5 f7 f8
      refine go_s (pc' := 76) (lv' := (ab_s1 6 (.int F) lv)) (st' := []) (h' := h) rfl rfl rfl ?_
      have f6 : ab_lk (ab_s1 6 (.int F) lv) 6 = some (.int F) := mk_s1s
      have f0 := po_s1_other (v := .int F) (i := 6) f0 (by decide) (fun q => absurd q.1 (by decide))
      have f1 := po_s1_other (v := .int F) (i := 6) f1 (by decide) (fun q => absurd q.1 (by decide))
      have f2 := po_s1_other (v := .int F) (i := 6) f2 (by decide) (fun q => absurd q.1 (by decide))
      have f4 := po_s1_other (v := .int F) (i := 6) f4 (by decide) (fun q => absurd q.1 (by decide))
      have f5 := po_s1_other (v := .int F) (i := 6) f5 (by decide) (fun q => absurd q.2 (show ¬ (1 : Nat) = 2 by decide))
      have f7 := po_s1_other (v := .int F) (i := 6) f7 (by decide) (fun q => absurd q.1 (by decide))
      have f8 := po_s1_other (v := .int F) (i := 6) f8 (by decide) (fun q => absurd q.1 (by decide))
      generalize ab_s1 6 (.int F) lv = lv1 at f0 f1 f2 f4 f5 f6 f7 f8 ⊢
      refine go_s (pc' := 79) (lv' := (ab_s1 7 (.int (Int32.ofNat (i + 1))) lv1)) (st' := []) (h' := h) rfl rfl (mk_inc1 (by decide) (by omega) f7) ?_
      have f7 : ab_lk (ab_s1 7 (.int (Int32.ofNat (i + 1))) lv1) 7 = some (.int (Int32.ofNat (i + 1))) := mk_s1s
      have f0 := po_s1_other (v := .int (Int32.ofNat (i + 1))) (i := 7) f0 (by decide) (fun q => absurd q.1 (by decide))
      have f1 := po_s1_other (v := .int (Int32.ofNat (i + 1))) (i := 7) f1 (by decide) (fun q => absurd q.1 (by decide))
      have f2 := po_s1_other (v := .int (Int32.ofNat (i + 1))) (i := 7) f2 (by decide) (fun q => absurd q.1 (by decide))
      have f4 := po_s1_other (v := .int (Int32.ofNat (i + 1))) (i := 7) f4 (by decide) (fun q => absurd q.1 (by decide))
      have f5 := po_s1_other (v := .int (Int32.ofNat (i + 1))) (i := 7) f5 (by decide) (fun q => absurd q.1 (by decide))
      have f6 := po_s1_other (v := .int (Int32.ofNat (i + 1))) (i := 7) f6 (by decide) (fun q => absurd q.2 (show ¬ (1 : Nat) = 2 by decide))
      have f8 := po_s1_other (v := .int (Int32.ofNat (i + 1))) (i := 7) f8 (by decide) (fun q => absurd q.1 (by decide))
      generalize ab_s1 7 (.int (Int32.ofNat (i + 1))) lv1 = lv2 at f0 f1 f2 f4 f5 f6 f7 f8 ⊢
      refine go_goto (off := -54) (tgt := 25) rfl rfl ?_
      exact ih (i + 1) F lv2 (by omega) hF f0 f1 f2 f4 f5 f6 f7
    refine go_s (pc' := 36) (lv' := lv) (st' := [.int (Int32.ofNat (c / 3 ^ i))]) (h' := h) rfl rfl (po_ild (nL := 0) f5) ?_
    refine go_s (pc' := 37) (lv' := lv) (st' := [.int 3, .int (Int32.ofNat (c / 3 ^ i))]) (h' := h) rfl rfl rfl ?_
    refine go_s (pc' := 38) (lv' := lv) (st' := [.int (Int32.ofNat (dg c i))]) (h' := h) rfl rfl (by show (if (3 : Int32) = 0 then none else some (_, _, Value.int (Int32.ofNat (c / 3 ^ i) - Int32.ofNat (c / 3 ^ i) / Int32.ofNat 3 * Int32.ofNat 3) :: _, _)) = _; rw [if_neg (by decide)]; rw [lc_mod (by omega) (by omega)]; rfl) ?_
    refine go_s (pc' := 40) (lv' := (ab_s1 8 (.int (Int32.ofNat (dg c i))) lv)) (st' := []) (h' := h) rfl rfl rfl ?_
    have f8 : ab_lk (ab_s1 8 (.int (Int32.ofNat (dg c i))) lv) 8 = some (.int (Int32.ofNat (dg c i))) := mk_s1s
    have f0 := po_s1_other (v := .int (Int32.ofNat (dg c i))) (i := 8) f0 (by decide) (fun q => absurd q.1 (by decide))
    have f1 := po_s1_other (v := .int (Int32.ofNat (dg c i))) (i := 8) f1 (by decide) (fun q => absurd q.1 (by decide))
    have f2 := po_s1_other (v := .int (Int32.ofNat (dg c i))) (i := 8) f2 (by decide) (fun q => absurd q.1 (by decide))
    have f4 := po_s1_other (v := .int (Int32.ofNat (dg c i))) (i := 8) f4 (by decide) (fun q => absurd q.1 (by decide))
    have f5 := po_s1_other (v := .int (Int32.ofNat (dg c i))) (i := 8) f5 (by decide) (fun q => absurd q.1 (by decide))
    have f6 := po_s1_other (v := .int (Int32.ofNat (dg c i))) (i := 8) f6 (by decide) (fun q => absurd q.1 (by decide))
    have f7 := po_s1_other (v := .int (Int32.ofNat (dg c i))) (i := 8) f7 (by decide) (fun q => absurd q.2 (show ¬ (1 : Nat) = 2 by decide))
    generalize ab_s1 8 (.int (Int32.ofNat (dg c i))) lv = lv1 at f0 f1 f2 f4 f5 f6 f7 f8 ⊢
    refine go_s (pc' := 42) (lv' := lv1) (st' := [.int (Int32.ofNat (c / 3 ^ i))]) (h' := h) rfl rfl (po_ild (nL := 0) f5) ?_
    refine go_s (pc' := 43) (lv' := lv1) (st' := [.int 3, .int (Int32.ofNat (c / 3 ^ i))]) (h' := h) rfl rfl rfl ?_
    refine go_s (pc' := 44) (lv' := lv1) (st' := [.int (Int32.ofNat (c / 3 ^ (i + 1)))]) (h' := h) rfl rfl (by show (if (3 : Int32) = 0 then none else some (_, _, Value.int (Int32.ofNat (c / 3 ^ i) / Int32.ofNat 3) :: _, _)) = _; rw [if_neg (by decide)]; rw [lc_div (by omega) (by omega), lc_qs]) ?_
    refine go_s (pc' := 46) (lv' := (ab_s1 5 (.int (Int32.ofNat (c / 3 ^ (i + 1)))) lv1)) (st' := []) (h' := h) rfl rfl rfl ?_
    have f5 : ab_lk (ab_s1 5 (.int (Int32.ofNat (c / 3 ^ (i + 1)))) lv1) 5 = some (.int (Int32.ofNat (c / 3 ^ (i + 1)))) := mk_s1s
    have f0 := po_s1_other (v := .int (Int32.ofNat (c / 3 ^ (i + 1)))) (i := 5) f0 (by decide) (fun q => absurd q.1 (by decide))
    have f1 := po_s1_other (v := .int (Int32.ofNat (c / 3 ^ (i + 1)))) (i := 5) f1 (by decide) (fun q => absurd q.1 (by decide))
    have f2 := po_s1_other (v := .int (Int32.ofNat (c / 3 ^ (i + 1)))) (i := 5) f2 (by decide) (fun q => absurd q.1 (by decide))
    have f4 := po_s1_other (v := .int (Int32.ofNat (c / 3 ^ (i + 1)))) (i := 5) f4 (by decide) (fun q => absurd q.2 (show ¬ (1 : Nat) = 2 by decide))
    have f6 := po_s1_other (v := .int (Int32.ofNat (c / 3 ^ (i + 1)))) (i := 5) f6 (by decide) (fun q => absurd q.1 (by decide))
    have f7 := po_s1_other (v := .int (Int32.ofNat (c / 3 ^ (i + 1)))) (i := 5) f7 (by decide) (fun q => absurd q.1 (by decide))
    have f8 := po_s1_other (v := .int (Int32.ofNat (c / 3 ^ (i + 1)))) (i := 5) f8 (by decide) (fun q => absurd q.1 (by decide))
    generalize ab_s1 5 (.int (Int32.ofNat (c / 3 ^ (i + 1)))) lv1 = lv2 at f0 f1 f2 f4 f5 f6 f7 f8 ⊢
    refine go_s (pc' := 48) (lv' := lv2) (st' := [.int F]) (h' := h) rfl rfl (po_ild (nL := 0) f6) ?_
    have zero : ¬ lc_C (i + 1) c l → ab_go d ab_M_X10_levelsOf 73 lv2 [] h Q := fun z => by
      refine go_s (pc' := 74) (lv' := lv2) (st' := [.int 0]) (h' := h) rfl rfl rfl ?_
      exact rest 0 _ (Or.inr ⟨rfl, z⟩) f0 f1 f2 f4 f5 f7 f8
    have one : lc_C (i + 1) c l → ab_go d ab_M_X10_levelsOf 69 lv2 [] h Q := fun z => by
      refine go_s (pc' := 70) (lv' := lv2) (st' := [.int 1]) (h' := h) rfl rfl rfl ?_
      refine go_goto (off := 4) (tgt := 74) rfl rfl ?_
      exact rest 1 _ (Or.inl ⟨rfl, z⟩) f0 f1 f2 f4 f5 f7 f8
    refine go_if (c := .eq) (off := 25) (tgt := 73) rfl rfl (fun q => zero (fun z => ?_)) (fun q => ?_)
    · rcases hF with ⟨e, _⟩ | ⟨_, e⟩
      · rw [e] at q; exact absurd q (show ¬ (1 : Int32).toInt = 0 by decide)
      · exact e (lc_Cs.mp z).1
    have hC : lc_C i c l := by
      rcases hF with ⟨_, e⟩ | ⟨e, _⟩
      · exact e
      · exact absurd (by rw [e]; rfl) q
    refine go_s (pc' := 53) (lv' := lv2) (st' := [.int (Int32.ofNat (dg c i))]) (h' := h) rfl rfl (po_ild (nL := 0) f8) ?_
    refine go_s (pc' := 54) (lv' := lv2) (st' := [.int 2, .int (Int32.ofNat (dg c i))]) (h' := h) rfl rfl rfl ?_
    refine go_ic (c := .eq) (off := 15) (tgt := 69) rfl rfl (fun q => one (lc_Cs.mpr ⟨hC, Or.inl ?_⟩)) (fun q => ?_)
    · have q : (Int32.ofNat (dg c i)).toInt = 2 := q
      rw [mk_i (by omega)] at q
      omega
    have h2 : dg c i ≠ 2 := fun z => q (by show (Int32.ofNat (dg c i)).toInt = 2; rw [mk_i (by omega), z]; rfl)
    refine go_s (pc' := 59) (lv' := lv2) (st' := [.int (Int32.ofNat (dg c i))]) (h' := h) rfl rfl (po_ild (nL := 0) f8) ?_
    refine go_s (pc' := 61) (lv' := lv2) (st' := [.int (Int32.ofNat l), .int (Int32.ofNat (dg c i))]) (h' := h) rfl rfl (po_ild (nL := 0) f4) ?_
    refine go_s (pc' := 63) (lv' := lv2) (st' := [.int (Int32.ofNat i), .int (Int32.ofNat l), .int (Int32.ofNat (dg c i))]) (h' := h) rfl rfl (po_ild (nL := 0) f7) ?_
    refine go_s (pc' := 64) (lv' := lv2) (st' := [.int ((Int32.ofNat l) >>> ((Int32.ofNat i) &&& 31)), .int (Int32.ofNat (dg c i))]) (h' := h) rfl rfl rfl ?_
    refine go_s (pc' := 65) (lv' := lv2) (st' := [.int 1, .int ((Int32.ofNat l) >>> ((Int32.ofNat i) &&& 31)), .int (Int32.ofNat (dg c i))]) (h' := h) rfl rfl rfl ?_
    refine go_s (pc' := 66) (lv' := lv2) (st' := [.int (Int32.ofNat (lc_bt l i)), .int (Int32.ofNat (dg c i))]) (h' := h) rfl rfl (by show some (_, _, Value.int ((Int32.ofNat l >>> (Int32.ofNat i &&& 31)) &&& 1) :: _, _) = _; rw [lc_bit hl (by omega)]; rfl) ?_
    refine go_ic (c := .ne) (off := 7) (tgt := 73) rfl rfl (fun q => zero (fun z => ?_)) (fun q => one (lc_Cs.mpr ⟨hC, Or.inr ?_⟩))
    · rcases (lc_Cs.mp z).2 with e | e
      · exact h2 e
      · exact q (by rw [e])
    · have q : (Int32.ofNat (dg c i)).toInt = (Int32.ofNat (lc_bt l i)).toInt := Classical.not_not.mp q
      rw [mk_i (by omega), mk_i (by omega)] at q
      omega
def lv_X (W c l : Nat) (X : Int64) : Prop := ∀ i, i < 64 → (mk_bt X i = true ↔ i < l ∧ lc_C W c i)
theorem lv_out (m : ab_rd h 82 = some (.inr (10, ws)) ∧ True) (hW0 : ws[0]? = some (.int (Int32.ofNat W))) (hW : W ≤ 6) {c : Nat} (hc : c < 1000) (kk : ∀ X : Int64, lv_X W c (2 ^ W) X → Q (some (.long X)) h) : ∀ (r l : Nat) (X : Int64) (lv : ab_L), l + r = 2 ^ W → lv_X W c l X → ab_lk lv 0 = some (.ref 82) → ab_lk lv 1 = some (.int (Int32.ofNat c)) → ab_lk lv 2 = some (.long X) → ab_lk lv 4 = some (.int (Int32.ofNat l)) → ab_go d ab_M_X10_levelsOf 5 lv [] h Q := by
  have h2 := lc_p2 hW
  intro r
  induction r with
  | zero =>
    intro l X lv hr hX f0 f1 f2 f4
    refine go_s (pc' := 7) (lv' := lv) (st' := [.int (Int32.ofNat l)]) (h' := h) rfl rfl (po_ild (nL := 0) f4) ?_
    refine go_s (pc' := 8) (lv' := lv) (st' := [.int 1, .int (Int32.ofNat l)]) (h' := h) rfl rfl rfl ?_
    refine go_s (pc' := 9) (lv' := lv) (st' := [.ref 82, .int 1, .int (Int32.ofNat l)]) (h' := h) rfl rfl (ig_ald f0) ?_
    refine go_get (ci := 10) (k := 0) rfl m.1 hW0 ?_
    refine go_s (pc' := 13) (lv' := lv) (st' := [.int (Int32.ofNat (2 ^ W)), .int (Int32.ofNat l)]) (h' := h) rfl rfl (by show some (_, _, Value.int (Int32.ofNat 1 <<< (Int32.ofNat W &&& 31)) :: _, _) = _; rw [lc_two hW]) ?_
    refine go_ic (c := .ge) (off := 91) (tgt := 104) rfl rfl (fun _ => ?_) (fun q => absurd (show (Int32.ofNat (2 ^ W)).toInt ≤ (Int32.ofNat l).toInt by rw [mk_i (by omega), mk_i (by omega)]; omega) q)
    obtain rfl : l = 2 ^ W := by omega
    refine go_s (pc' := 105) (lv' := lv) (st' := [.long X]) (h' := h) rfl rfl (mk_lld f2) ?_
    exact go_rl rfl rfl (kk X hX)
  | succ r ih =>
    intro l X lv hr hX f0 f1 f2 f4
    refine go_s (pc' := 7) (lv' := lv) (st' := [.int (Int32.ofNat l)]) (h' := h) rfl rfl (po_ild (nL := 0) f4) ?_
    refine go_s (pc' := 8) (lv' := lv) (st' := [.int 1, .int (Int32.ofNat l)]) (h' := h) rfl rfl rfl ?_
    refine go_s (pc' := 9) (lv' := lv) (st' := [.ref 82, .int 1, .int (Int32.ofNat l)]) (h' := h) rfl rfl (ig_ald f0) ?_
    refine go_get (ci := 10) (k := 0) rfl m.1 hW0 ?_
    refine go_s (pc' := 13) (lv' := lv) (st' := [.int (Int32.ofNat (2 ^ W)), .int (Int32.ofNat l)]) (h' := h) rfl rfl (by show some (_, _, Value.int (Int32.ofNat 1 <<< (Int32.ofNat W &&& 31)) :: _, _) = _; rw [lc_two hW]) ?_
    refine go_ic (c := .ge) (off := 91) (tgt := 104) rfl rfl (fun q => absurd (show (Int32.ofNat (2 ^ W)).toInt ≤ (Int32.ofNat l).toInt from q) (by rw [mk_i (by omega), mk_i (by omega)]; omega)) (fun _ => ?_)
    refine go_s (pc' := 17) (lv' := lv) (st' := [.int (Int32.ofNat c)]) (h' := h) rfl rfl (po_ild (nL := 0) f1) ?_
    refine go_s (pc' := 19) (lv' := (ab_s1 5 (.int (Int32.ofNat c)) lv)) (st' := []) (h' := h) rfl rfl rfl ?_
    have f5 : ab_lk (ab_s1 5 (.int (Int32.ofNat c)) lv) 5 = some (.int (Int32.ofNat c)) := mk_s1s
    have f0 := po_s1_other (v := .int (Int32.ofNat c)) (i := 5) f0 (by decide) (fun q => absurd q.1 (by decide))
    have f1 := po_s1_other (v := .int (Int32.ofNat c)) (i := 5) f1 (by decide) (fun q => absurd q.1 (by decide))
    have f2 := po_s1_other (v := .int (Int32.ofNat c)) (i := 5) f2 (by decide) (fun q => absurd q.1 (by decide))
    have f4 := po_s1_other (v := .int (Int32.ofNat c)) (i := 5) f4 (by decide) (fun q => absurd q.2 (show ¬ (1 : Nat) = 2 by decide))
    generalize ab_s1 5 (.int (Int32.ofNat c)) lv = lv1 at f0 f1 f2 f4 f5 ⊢
    refine go_s (pc' := 20) (lv' := lv1) (st' := [.int 1]) (h' := h) rfl rfl rfl ?_
    refine go_s (pc' := 22) (lv' := (ab_s1 6 (.int 1) lv1)) (st' := []) (h' := h) rfl rfl rfl ?_
    have f6 : ab_lk (ab_s1 6 (.int 1) lv1) 6 = some (.int 1) := mk_s1s
    have f0 := po_s1_other (v := .int 1) (i := 6) f0 (by decide) (fun q => absurd q.1 (by decide))
    have f1 := po_s1_other (v := .int 1) (i := 6) f1 (by decide) (fun q => absurd q.1 (by decide))
    have f2 := po_s1_other (v := .int 1) (i := 6) f2 (by decide) (fun q => absurd q.1 (by decide))
    have f4 := po_s1_other (v := .int 1) (i := 6) f4 (by decide) (fun q => absurd q.1 (by decide))
    have f5 := po_s1_other (v := .int 1) (i := 6) f5 (by decide) (fun q => absurd q.2 (show ¬ (1 : Nat) = 2 by decide))
    generalize ab_s1 6 (.int 1) lv1 = lv2 at f0 f1 f2 f4 f5 f6 ⊢
    refine go_s (pc' := 23) (lv' := lv2) (st' := [.int 0]) (h' := h) rfl rfl rfl ?_
    refine go_s (pc' := 25) (lv' := (ab_s1 7 (.int 0) lv2)) (st' := []) (h' := h) rfl rfl rfl ?_
    have f7 : ab_lk (ab_s1 7 (.int 0) lv2) 7 = some (.int 0) := mk_s1s
    have f0 := po_s1_other (v := .int 0) (i := 7) f0 (by decide) (fun q => absurd q.1 (by decide))
    have f1 := po_s1_other (v := .int 0) (i := 7) f1 (by decide) (fun q => absurd q.1 (by decide))
    have f2 := po_s1_other (v := .int 0) (i := 7) f2 (by decide) (fun q => absurd q.1 (by decide))
    have f4 := po_s1_other (v := .int 0) (i := 7) f4 (by decide) (fun q => absurd q.1 (by decide))
    have f5 := po_s1_other (v := .int 0) (i := 7) f5 (by decide) (fun q => absurd q.1 (by decide))
    have f6 := po_s1_other (v := .int 0) (i := 7) f6 (by decide) (fun q => absurd q.2 (show ¬ (1 : Nat) = 2 by decide))
    generalize ab_s1 7 (.int 0) lv2 = lv3 at f0 f1 f2 f4 f5 f6 f7 ⊢
    refine lv_in m hW0 hW hc (show l < 64 by omega) (fun F lv hF f0 f1 f2 f4 f6 => ?_) W 0 1 lv3 (by omega) (Or.inl ⟨rfl, fun j hj => absurd hj (Nat.not_lt_zero _)⟩) f0 f1 f2 f4 (by rw [Nat.pow_zero, Nat.div_one]; exact f5) f6 f7
    have rest : ∀ (Y : Int64) (lv : ab_L), (∀ i, i < 64 → (mk_bt Y i = true ↔ i = l ∧ lc_C W c l)) → ab_lk lv 0 = some (.ref 82) → ab_lk lv 1 = some (.int (Int32.ofNat c)) → ab_lk lv 2 = some (.long X) → ab_lk lv 4 = some (.int (Int32.ofNat l)) → ab_go d ab_M_X10_levelsOf 96 lv [.long Y, .long X] h Q := by
      intro Y lv hY f0 f1 f2 f4
      refine go_s (pc' := 97) (lv' := lv) (st' := [.long (X ||| Y)]) (h' := h) rfl rfl rfl ?_
      refine go_s (pc' := 98) (lv' := (ab_s2 2 (.long (X ||| Y)) lv)) (st' := []) (h' := h) rfl rfl rfl ?_
      have f2 : ab_lk (ab_s2 2 (.long (X ||| Y)) lv) 2 = some (.long (X ||| Y)) := mk_s2s
      have f0 := mk_s2o (v := .long (X ||| Y)) (i := 2) f0 (by decide) (by decide) (fun q => absurd q.1 (by decide))
      have f1 := mk_s2o (v := .long (X ||| Y)) (i := 2) f1 (by decide) (by decide) (fun q => absurd q.2 (show ¬ (1 : Nat) = 2 by decide))
      have f4 := mk_s2o (v := .long (X ||| Y)) (i := 2) f4 (by decide) (by decide) (fun q => absurd q.1 (by decide))
      generalize ab_s2 2 (.long (X ||| Y)) lv = lv1 at f0 f1 f2 f4 ⊢
      refine go_s (pc' := 101) (lv' := (ab_s1 4 (.int (Int32.ofNat (l + 1))) lv1)) (st' := []) (h' := h) rfl rfl (mk_inc1 (by decide) (by omega) f4) ?_
      have f4 : ab_lk (ab_s1 4 (.int (Int32.ofNat (l + 1))) lv1) 4 = some (.int (Int32.ofNat (l + 1))) := mk_s1s
      have f0 := po_s1_other (v := .int (Int32.ofNat (l + 1))) (i := 4) f0 (by decide) (fun q => absurd q.1 (by decide))
      have f1 := po_s1_other (v := .int (Int32.ofNat (l + 1))) (i := 4) f1 (by decide) (fun q => absurd q.1 (by decide))
      have f2 := po_s1_other (v := .int (Int32.ofNat (l + 1))) (i := 4) f2 (by decide) (fun q => absurd q.1 (by decide))
      generalize ab_s1 4 (.int (Int32.ofNat (l + 1))) lv1 = lv2 at f0 f1 f2 f4 ⊢
      refine go_goto (off := -96) (tgt := 5) rfl rfl ?_
      refine ih (l + 1) (X ||| Y) lv2 (by omega) (fun i hi => ?_) f0 f1 f2 f4
      rw [mk_or, Bool.or_eq_true, hX i hi, hY i hi]
      constructor
      · rintro (⟨q1, q2⟩ | ⟨rfl, q2⟩)
        · exact ⟨by omega, q2⟩
        · exact ⟨by omega, q2⟩
      · intro ⟨q1, q2⟩
        by_cases e : i = l
        · exact Or.inr ⟨e, by rw [← e]; exact q2⟩
        · exact Or.inl ⟨by omega, q2⟩
    refine go_s (pc' := 83) (lv' := lv) (st' := [.long X]) (h' := h) rfl rfl (mk_lld f2) ?_
    refine go_s (pc' := 85) (lv' := lv) (st' := [.int F, .long X]) (h' := h) rfl rfl (po_ild (nL := 0) f6) ?_
    refine go_if (c := .eq) (off := 10) (tgt := 95) rfl rfl (fun q => ?_) (fun q => ?_)
    · refine go_s (pc' := 96) (lv' := lv) (st' := [.long 0, .long X]) (h' := h) rfl rfl rfl ?_
      refine rest 0 _ (fun i hi => ⟨fun z => (by rw [mk_zero] at z; cases z), fun z => ?_⟩) f0 f1 f2 f4
      rcases hF with ⟨e, _⟩ | ⟨_, e⟩
      · rw [e] at q; exact absurd q (show ¬ (1 : Int32).toInt = 0 by decide)
      · exact absurd z.2 e
    · refine go_s (pc' := 89) (lv' := lv) (st' := [.long 1, .long X]) (h' := h) rfl rfl rfl ?_
      refine go_s (pc' := 91) (lv' := lv) (st' := [.int (Int32.ofNat l), .long 1, .long X]) (h' := h) rfl rfl (po_ild (nL := 0) f4) ?_
      refine go_s (pc' := 92) (lv' := lv) (st' := [.long (1 <<< (Int32.toInt64 (Int32.ofNat l) &&& 63)), .long X]) (h' := h) rfl rfl rfl ?_
      refine go_goto (off := 4) (tgt := 96) rfl rfl ?_
      refine rest _ _ (fun i hi => ?_) f0 f1 f2 f4
      rw [lc_shl (show l < 64 by omega) hi, decide_eq_true_eq]
      refine ⟨fun z => ⟨z, ?_⟩, fun z => z.1⟩
      rcases hF with ⟨_, e⟩ | ⟨e, _⟩
      · exact e
      · exact absurd (by rw [e]; rfl) q
theorem lv_run (m : ab_rd h 82 = some (.inr (10, ws)) ∧ True) (hW0 : ws[0]? = some (.int (Int32.ofNat W))) (hW : W ≤ 6) {c : Nat} (hc : c < 1000) (d : Nat) : ab_go d ab_M_X10_levelsOf 0 [(0, .ref 82), (1, .int (Int32.ofNat c))] [] h (fun r h' => (∃ X : Int64, r = some (.long X) ∧ lv_X W c (2 ^ W) X) ∧ h' = h) := by
  have f0 : ab_lk [(0, Value.ref 82), (1, .int (Int32.ofNat c))] 0 = some (.ref 82) := rfl
  have f1 : ab_lk [(0, Value.ref 82), (1, .int (Int32.ofNat c))] 1 = some (.int (Int32.ofNat c)) := rfl
  generalize [(0, Value.ref 82), (1, .int (Int32.ofNat c))] = lv at f0 f1 ⊢
  refine go_s (pc' := 1) (lv' := lv) (st' := [.long 0]) (h' := h) rfl rfl rfl ?_
  refine go_s (pc' := 2) (lv' := (ab_s2 2 (.long 0) lv)) (st' := []) (h' := h) rfl rfl rfl ?_
  have f2 : ab_lk (ab_s2 2 (.long 0) lv) 2 = some (.long 0) := mk_s2s
  have f0 := mk_s2o (v := .long 0) (i := 2) f0 (by decide) (by decide) (fun q => absurd q.1 (by decide))
  have f1 := mk_s2o (v := .long 0) (i := 2) f1 (by decide) (by decide) (fun q => absurd q.2 (show ¬ (1 : Nat) = 2 by decide))
  generalize ab_s2 2 (.long 0) lv = lv1 at f0 f1 f2 ⊢
  refine go_s (pc' := 3) (lv' := lv1) (st' := [.int 0]) (h' := h) rfl rfl rfl ?_
  refine go_s (pc' := 5) (lv' := (ab_s1 4 (.int 0) lv1)) (st' := []) (h' := h) rfl rfl rfl ?_
  have f4 : ab_lk (ab_s1 4 (.int 0) lv1) 4 = some (.int 0) := mk_s1s
  have f0 := po_s1_other (v := .int 0) (i := 4) f0 (by decide) (fun q => absurd q.1 (by decide))
  have f1 := po_s1_other (v := .int 0) (i := 4) f1 (by decide) (fun q => absurd q.1 (by decide))
  have f2 := po_s1_other (v := .int 0) (i := 4) f2 (by decide) (fun q => absurd q.1 (by decide))
  generalize ab_s1 4 (.int 0) lv1 = lv2 at f0 f1 f2 f4 ⊢
  exact lv_out m hW0 hW hc (fun X hX => ⟨⟨X, rfl, hX⟩, rfl⟩) (2 ^ W) 0 0 lv2 (by omega) (fun i hi => ⟨fun z => (by rw [mk_zero] at z; cases z), fun z => absurd z.1 (Nat.not_lt_zero _)⟩) f0 f1 f2 f4
end LV
