/-! ===== excited, aims, layAims ===== -/
theorem am_cal_ex {h : ab_H} {P : Int32} {rest ws : List Value} (hw : (rest.map fun v => v.category).sum ≤ 8) (h82 : ab_rd h 82 = some (.inr (10, ws))) {i ix : Nat} : ab_cal ab_G (ab_c (.invokevirtual i) 0 179 1 ix) (.int P :: .ref 82 :: rest) h = some (ab_M_X10_excited, [.ref 82, .int P], rest) := ab_cal_v (As := [.int P]) rfl (show ab_G 179 = some ab_M_X10_excited from rfl) rfl h82 rfl rfl (by unfold ab_cok; rw [Bool.and_eq_true]; exact ⟨rfl, decide_eq_true hw⟩) rfl
theorem am_cal_am {h : ab_H} {P : Int32} {rest ws : List Value} (hw : (rest.map fun v => v.category).sum ≤ 8) (h82 : ab_rd h 82 = some (.inr (10, ws))) {i ix : Nat} : ab_cal ab_G (ab_c (.invokevirtual i) 0 180 1 ix) (.int P :: .ref 82 :: rest) h = some (ab_M_X10_aims, [.ref 82, .int P], rest) := ab_cal_v (As := [.int P]) rfl (show ab_G 180 = some ab_M_X10_aims from rfl) rfl h82 rfl rfl (by unfold ab_cok; rw [Bool.and_eq_true]; exact ⟨rfl, decide_eq_true hw⟩) rfl
def am_M (h : ab_H) (ws : List Value) (wi nx lvs : Nat → Int32) : Prop := ab_rd h 82 = some (.inr (10, ws)) ∧ ab_rd h 85 = some (.inl (0, 16, .inl wi)) ∧ ab_rd h 100 = some (.inl (0, 3200, .inl nx)) ∧ ab_rd h 101 = some (.inl (0, 200, .inl lvs))
def am_Q (ws : List Value) (EV ST : Nat) : Prop := ws[3]? = some (.int (Int32.ofNat EV)) ∧ ws[4]? = some (.ref 85) ∧ ws[35]? = some (.ref 100) ∧ ws[36]? = some (.ref 101) ∧ ws[32]? = some (.int (Int32.ofNat ST))
/-- the wires that are called for -/
def am_e (wi nx : Nat → Int32) (s : Nat) : Nat → Int32
  | 0 => 0
  | e + 1 => am_e wi nx s e ||| (if nx (16 * s + e) = -4 then (0 : Int32) else (1 : Int32) <<< (wi e &&& 31))
def am_v (wi nx lvs : Nat → Int32) (EV s : Nat) : Int32 := lvs s ^^^ am_e wi nx s EV
section AM
variable {d : Nat} {h : ab_H} {ws : List Value} {wi nx lvs : Nat → Int32} {EV ST : Nat} {Q : Option Value → ab_H → Prop}
theorem am_ex (m : am_M h ws wi nx lvs) (hq : am_Q ws EV ST) (hE : EV ≤ 16) {s : Nat} (hs : s < 200) (kk : Q (some (.int (am_e wi nx s EV))) h) : ∀ (r e : Nat) (lv : ab_L), e + r = EV → ab_lk lv 0 = some (.ref 82) → ab_lk lv 1 = some (.int (Int32.ofNat s)) → ab_lk lv 2 = some (.int (am_e wi nx s e)) → ab_lk lv 3 = some (.int (Int32.ofNat e)) → ab_go d ab_M_X10_excited 4 lv [] h Q := by
  intro r
  induction r with
  | zero =>
    intro e lv hr f0 f1 f2 f3
    obtain rfl : e = EV := hr
    refine go_s (pc' := 5) (lv' := lv) (st' := [.int (Int32.ofNat e)]) (h' := h) rfl rfl (po_ild (nL := 0) f3) ?_
    refine go_s (pc' := 6) (lv' := lv) (st' := [.ref 82, .int (Int32.ofNat e)]) (h' := h) rfl rfl (ig_ald f0) ?_
    refine go_get (ci := 10) (k := 3) rfl m.1 hq.1 ?_
    refine go_ic (c := .ge) (off := 40) (tgt := 49) rfl rfl (fun _ => ?_) (fun q => absurd (Int.le_refl _) q)
    refine go_s (pc' := 50) (lv' := lv) (st' := [.int (am_e wi nx s e)]) (h' := h) rfl rfl (po_ild (nL := 0) f2) ?_
    exact go_ri rfl rfl kk
  | succ r ih =>
    intro e lv hr f0 f1 f2 f3
    refine go_s (pc' := 5) (lv' := lv) (st' := [.int (Int32.ofNat e)]) (h' := h) rfl rfl (po_ild (nL := 0) f3) ?_
    refine go_s (pc' := 6) (lv' := lv) (st' := [.ref 82, .int (Int32.ofNat e)]) (h' := h) rfl rfl (ig_ald f0) ?_
    refine go_get (ci := 10) (k := 3) rfl m.1 hq.1 ?_
    refine go_ic (c := .ge) (off := 40) (tgt := 49) rfl rfl (fun q => absurd (show (Int32.ofNat EV).toInt ≤ (Int32.ofNat e).toInt from q) (by rw [mk_i (by omega), mk_i (by omega)]; omega)) (fun _ => ?_)
    have rest : ∀ (x : Int32) (lv : ab_L), x = (if nx (16 * s + e) = -4 then (0 : Int32) else (1 : Int32) <<< (wi e &&& 31)) → ab_lk lv 0 = some (.ref 82) → ab_lk lv 1 = some (.int (Int32.ofNat s)) → ab_lk lv 2 = some (.int (am_e wi nx s e)) → ab_lk lv 3 = some (.int (Int32.ofNat e)) → ab_go d ab_M_X10_excited 41 lv [.int x, .int (am_e wi nx s e)] h Q := by
      intro x lv hx f0 f1 f2 f3
      refine go_s (pc' := 42) (lv' := lv) (st' := [.int (am_e wi nx s (e + 1))]) (h' := h) rfl rfl (by show some (_, _, Value.int (am_e wi nx s e ||| x) :: _, _) = _; rw [hx]; rfl) ?_
      refine go_s (pc' := 43) (lv' := (ab_s1 2 (.int (am_e wi nx s (e + 1))) lv)) (st' := []) (h' := h) rfl rfl rfl ?_
      have f2 : ab_lk (ab_s1 2 (.int (am_e wi nx s (e + 1))) lv) 2 = some (.int (am_e wi nx s (e + 1))) := mk_s1s
      have f0 := po_s1_other (v := .int (am_e wi nx s (e + 1))) (i := 2) f0 (by decide) (fun q => absurd q.1 (by decide))
      have f1 := po_s1_other (v := .int (am_e wi nx s (e + 1))) (i := 2) f1 (by decide) (fun q => absurd q.2 (show ¬ (1 : Nat) = 2 by decide))
      have f3 := po_s1_other (v := .int (am_e wi nx s (e + 1))) (i := 2) f3 (by decide) (fun q => absurd q.1 (by decide))
      generalize ab_s1 2 (.int (am_e wi nx s (e + 1))) lv = lv1 at f0 f1 f2 f3 ⊢
      refine go_s (pc' := 46) (lv' := (ab_s1 3 (.int (Int32.ofNat (e + 1))) lv1)) (st' := []) (h' := h) rfl rfl (mk_inc1 (by decide) (by omega) f3) ?_
      have f3 : ab_lk (ab_s1 3 (.int (Int32.ofNat (e + 1))) lv1) 3 = some (.int (Int32.ofNat (e + 1))) := mk_s1s
      have f0 := po_s1_other (v := .int (Int32.ofNat (e + 1))) (i := 3) f0 (by decide) (fun q => absurd q.1 (by decide))
      have f1 := po_s1_other (v := .int (Int32.ofNat (e + 1))) (i := 3) f1 (by decide) (fun q => absurd q.1 (by decide))
      have f2 := po_s1_other (v := .int (Int32.ofNat (e + 1))) (i := 3) f2 (by decide) (fun q => absurd q.2 (show ¬ (1 : Nat) = 2 by decide))
      generalize ab_s1 3 (.int (Int32.ofNat (e + 1))) lv1 = lv2 at f0 f1 f2 f3 ⊢
      refine go_goto (off := -42) (tgt := 4) rfl rfl ?_
      exact ih (e + 1) lv2 (by omega) f0 f1 f2 f3
    refine go_s (pc' := 13) (lv' := lv) (st' := [.int (am_e wi nx s e)]) (h' := h) rfl rfl (po_ild (nL := 0) f2) ?_
    refine go_s (pc' := 14) (lv' := lv) (st' := [.ref 82, .int (am_e wi nx s e)]) (h' := h) rfl rfl (ig_ald f0) ?_
    refine go_get (ci := 10) (k := 35) rfl m.1 hq.2.2.1 ?_
    refine go_s (pc' := 19) (lv' := lv) (st' := [.int 16, .ref 100, .int (am_e wi nx s e)]) (h' := h) rfl rfl rfl ?_
    refine go_s (pc' := 20) (lv' := lv) (st' := [.int (Int32.ofNat s), .int 16, .ref 100, .int (am_e wi nx s e)]) (h' := h) rfl rfl (po_ild (nL := 0) f1) ?_
    refine go_s (pc' := 21) (lv' := lv) (st' := [.int (Int32.ofNat (16 * s)), .ref 100, .int (am_e wi nx s e)]) (h' := h) rfl rfl (by show some (_, _, Value.int (Int32.ofNat 16 * Int32.ofNat s) :: _, _) = _; rw [lc_mul (by omega) (by omega) (by omega)]) ?_
    refine go_s (pc' := 22) (lv' := lv) (st' := [.int (Int32.ofNat e), .int (Int32.ofNat (16 * s)), .ref 100, .int (am_e wi nx s e)]) (h' := h) rfl rfl (po_ild (nL := 0) f3) ?_
    refine go_s (pc' := 23) (lv' := lv) (st' := [.int (Int32.ofNat (16 * s + e)), .ref 100, .int (am_e wi nx s e)]) (h' := h) rfl rfl (by show some (_, _, Value.int (Int32.ofNat (16 * s) + Int32.ofNat e) :: _, _) = _; rw [lc_add (by omega)]) ?_
    refine go_ial (v := nx (16 * s + e)) rfl m.2.2.1 (mk_ix (by omega) (by omega)) (by rw [mk_cl (by omega)]) ?_
    refine go_s (pc' := 26) (lv' := lv) (st' := [.int (-4), .int (nx (16 * s + e)), .int (am_e wi nx s e)]) (h' := h) rfl rfl rfl ?_
    refine go_ic (c := .ne) (off := 7) (tgt := 33) rfl rfl (fun q => ?_) (fun q => ?_)
    · refine go_s (pc' := 34) (lv' := lv) (st' := [.int 1, .int (am_e wi nx s e)]) (h' := h) rfl rfl rfl ?_
      refine go_s (pc' := 35) (lv' := lv) (st' := [.ref 82, .int 1, .int (am_e wi nx s e)]) (h' := h) rfl rfl (ig_ald f0) ?_
      refine go_get (ci := 10) (k := 4) rfl m.1 hq.2.1 ?_
      refine go_s (pc' := 39) (lv' := lv) (st' := [.int (Int32.ofNat e), .ref 85, .int 1, .int (am_e wi nx s e)]) (h' := h) rfl rfl (po_ild (nL := 0) f3) ?_
      refine go_ial (v := wi e) rfl m.2.1 (mk_ix (by omega) (by omega)) (by rw [mk_cl (by omega)]) ?_
      refine go_s (pc' := 41) (lv' := lv) (st' := [.int (1 <<< ((wi e) &&& 31)), .int (am_e wi nx s e)]) (h' := h) rfl rfl rfl ?_
      exact rest _ _ (by rw [if_neg (fun z => q (congrArg Int32.toInt z))]) f0 f1 f2 f3
    · refine go_s (pc' := 30) (lv' := lv) (st' := [.int 0, .int (am_e wi nx s e)]) (h' := h) rfl rfl rfl ?_
      refine go_goto (off := 11) (tgt := 41) rfl rfl ?_
      exact rest 0 _ (by rw [if_pos (Int32.toInt_inj.mp (Classical.not_not.mp q))]) f0 f1 f2 f3
theorem am_ex_run (m : am_M h ws wi nx lvs) (hq : am_Q ws EV ST) (hE : EV ≤ 16) {s : Nat} (hs : s < 200) (d : Nat) : ab_go d ab_M_X10_excited 0 [(0, .ref 82), (1, .int (Int32.ofNat s))] [] h (fun r h' => r = some (.int (am_e wi nx s EV)) ∧ h' = h) := by
  have f0 : ab_lk [(0, Value.ref 82), (1, .int (Int32.ofNat s))] 0 = some (.ref 82) := rfl
  have f1 : ab_lk [(0, Value.ref 82), (1, .int (Int32.ofNat s))] 1 = some (.int (Int32.ofNat s)) := rfl
  generalize [(0, Value.ref 82), (1, .int (Int32.ofNat s))] = lv at f0 f1 ⊢
  refine go_s (pc' := 1) (lv' := lv) (st' := [.int 0]) (h' := h) rfl rfl rfl ?_
  refine go_s (pc' := 2) (lv' := (ab_s1 2 (.int 0) lv)) (st' := []) (h' := h) rfl rfl rfl ?_
  have f2 : ab_lk (ab_s1 2 (.int 0) lv) 2 = some (.int 0) := mk_s1s
  have f0 := po_s1_other (v := .int 0) (i := 2) f0 (by decide) (fun q => absurd q.1 (by decide))
  have f1 := po_s1_other (v := .int 0) (i := 2) f1 (by decide) (fun q => absurd q.2 (show ¬ (1 : Nat) = 2 by decide))
  generalize ab_s1 2 (.int 0) lv = lv1 at f0 f1 f2 ⊢
  refine go_s (pc' := 3) (lv' := lv1) (st' := [.int 0]) (h' := h) rfl rfl rfl ?_
  refine go_s (pc' := 4) (lv' := (ab_s1 3 (.int 0) lv1)) (st' := []) (h' := h) rfl rfl rfl ?_
  have f3 : ab_lk (ab_s1 3 (.int 0) lv1) 3 = some (.int 0) := mk_s1s
  have f0 := po_s1_other (v := .int 0) (i := 3) f0 (by decide) (fun q => absurd q.1 (by decide))
  have f1 := po_s1_other (v := .int 0) (i := 3) f1 (by decide) (fun q => absurd q.1 (by decide))
  have f2 := po_s1_other (v := .int 0) (i := 3) f2 (by decide) (fun q => absurd q.2 (show ¬ (1 : Nat) = 2 by decide))
  generalize ab_s1 3 (.int 0) lv1 = lv2 at f0 f1 f2 f3 ⊢
  exact am_ex m hq hE hs ⟨rfl, rfl⟩ EV 0 lv2 (by omega) f0 f1 f2 f3
theorem am_run (m : am_M h ws wi nx lvs) (hq : am_Q ws EV ST) (hE : EV ≤ 16) {s : Nat} (hs : s < 200) (d : Nat) : ab_go (d + 1) ab_M_X10_aims 0 [(0, .ref 82), (1, .int (Int32.ofNat s))] [] h (fun r h' => r = some (.int (am_v wi nx lvs EV s)) ∧ h' = h) := by
  have f0 : ab_lk [(0, Value.ref 82), (1, .int (Int32.ofNat s))] 0 = some (.ref 82) := rfl
  have f1 : ab_lk [(0, Value.ref 82), (1, .int (Int32.ofNat s))] 1 = some (.int (Int32.ofNat s)) := rfl
  generalize [(0, Value.ref 82), (1, .int (Int32.ofNat s))] = lv at f0 f1 ⊢
  refine go_s (pc' := 1) (lv' := lv) (st' := [.ref 82]) (h' := h) rfl rfl (ig_ald f0) ?_
  refine go_get (ci := 10) (k := 36) rfl m.1 hq.2.2.2.1 ?_
  refine go_s (pc' := 5) (lv' := lv) (st' := [.int (Int32.ofNat s), .ref 101]) (h' := h) rfl rfl (po_ild (nL := 0) f1) ?_
  refine go_ial (v := lvs s) rfl m.2.2.2 (mk_ix (by omega) (by omega)) (by rw [mk_cl (by omega)]) ?_
  refine go_s (pc' := 7) (lv' := lv) (st' := [.ref 82, .int (lvs s)]) (h' := h) rfl rfl (ig_ald f0) ?_
  refine go_s (pc' := 8) (lv' := lv) (st' := [.int (Int32.ofNat s), .ref 82, .int (lvs s)]) (h' := h) rfl rfl (po_ild (nL := 0) f1) ?_
  refine go_c rfl rfl (am_cal_ex (rest := [.int (lvs s)]) (show 1 + 0 ≤ 8 by decide) m.1) rfl (am_ex_run m hq hE hs d) (fun r h' hr => ?_)
  obtain ⟨rfl, rfl⟩ := hr
  show ab_go (d + 1) ab_M_X10_aims 11 _ [.int (am_e wi nx s EV), .int (lvs s)] _ _
  refine go_s (pc' := 12) (lv' := lv) (st' := [.int ((lvs s) ^^^ (am_e wi nx s EV))]) (h' := h') rfl rfl rfl ?_
  exact go_ri rfl rfl ⟨rfl, rfl⟩
end AM
/-- a state aims high on a wire -/
def am_b (x w : Int32) : Prop := (x >>> (w &&& 31)) &&& 1 = 1
def am_I (wi nx lvs : Nat → Int32) (EV s : Nat) (w : Int32) (A B : Int64) : Prop := (∀ l, l < 64 → mk_bt A l = true → ∃ s', s' < s ∧ lvs s' = Int32.ofNat l ∧ am_b (am_v wi nx lvs EV s') w) ∧ ∀ l, l < 64 → mk_bt B l = true → ∃ s', s' < s ∧ lvs s' = Int32.ofNat l ∧ ¬ am_b (am_v wi nx lvs EV s') w
def am_W (ws0 ws : List Value) : Prop := ws.length = ws0.length ∧ ∀ k, k ≠ 47 → k ≠ 48 → ws[k]? = ws0[k]?
theorem am_W.st {ws0 ws : List Value} (q : am_W ws0 ws) {k : Nat} (hk : k = 47 ∨ k = 48) (v : Value) : am_W ws0 (ws.set k v) := ⟨(List.length_set ..).trans q.1, fun i h1 h2 => (List.getElem?_set_ne (by omega)).trans (q.2 i h1 h2)⟩
theorem am_W.q {ws0 ws : List Value} (q : am_W ws0 ws) {EV ST : Nat} (m : am_Q ws0 EV ST) : am_Q ws EV ST := ⟨(q.2 3 (by decide) (by decide)).trans m.1, (q.2 4 (by decide) (by decide)).trans m.2.1, (q.2 35 (by decide) (by decide)).trans m.2.2.1, (q.2 36 (by decide) (by decide)).trans m.2.2.2.1, (q.2 32 (by decide) (by decide)).trans m.2.2.2.2⟩
theorem am_M.w82 {h : ab_H} {ws : List Value} {wi nx lvs : Nat → Int32} (m : am_M h ws wi nx lvs) (ws' : List Value) : am_M (ab_wr h 82 (.inr (10, ws'))) ws' wi nx lvs := ⟨ab_rd_self (ab_rd_of m.1).1, (ab_rd_other (by decide)).trans m.2.1, (ab_rd_other (by decide)).trans m.2.2.1, (ab_rd_other (by decide)).trans m.2.2.2⟩
def am_F (h0 h : ab_H) : Prop := h.1 = h0.1 ∧ h.2.1 = h0.2.1 ∧ ∀ a, a ≠ 82 → h.2.2 a = h0.2.2 a
theorem am_F.wr {h0 h : ab_H} (q : am_F h0 h) (e : ab_E) : am_F h0 (ab_wr h 82 e) := ⟨q.1, q.2.1, fun a h1 => (va_up_ne h.2.2 e h1).trans (q.2.2 a h1)⟩
theorem am_fl {x : Int64} : ab_fit .long (.long x) = true := by
  unfold ab_fit
  rw [Bool.and_eq_true]
  exact ⟨decide_eq_true rfl, rfl⟩
theorem am_sh {lvs : Nat → Int32} {s : Nat} (h1 : 0 ≤ (lvs s).toInt) (h2 : (lvs s).toInt ≤ 63) {l : Nat} (hl : l < 64) (hb : mk_bt ((1 : Int64) <<< ((lvs s).toInt64 &&& 63)) l = true) : lvs s = Int32.ofNat l := by
  have e : lvs s = Int32.ofNat (lvs s).toInt.toNat := cm_nat (by omega) (by omega)
  rw [e, lc_shl (by omega) hl, decide_eq_true_eq] at hb
  rw [e, hb]
section AM2
variable {d : Nat} {h0 : ab_H} {ws0 : List Value} {wi nx lvs : Nat → Int32} {EV ST : Nat} {w : Int32} {Q : Option Value → ab_H → Prop}
theorem la_loop (hq0 : am_Q ws0 EV ST) (hl0 : 48 < ws0.length) (hE : EV ≤ 16) (hS : ST ≤ 200) (hlv : ∀ s, s < 200 → 0 ≤ (lvs s).toInt ∧ (lvs s).toInt ≤ 63) (kk : ∀ (h : ab_H) (ws : List Value) (A B : Int64), am_M h ws wi nx lvs → am_W ws0 ws → am_F h0 h → ws[47]? = some (.long A) → ws[48]? = some (.long B) → am_I wi nx lvs EV ST w A B → Q none h) :
    ∀ (r s : Nat) (h : ab_H) (ws : List Value) (A B : Int64) (lv : ab_L), s + r = ST → am_M h ws wi nx lvs → am_W ws0 ws → am_F h0 h → ws[47]? = some (.long A) → ws[48]? = some (.long B) → am_I wi nx lvs EV s w A B → ab_lk lv 0 = some (.ref 82) → ab_lk lv 1 = some (.int w) → ab_lk lv 2 = some (.int (Int32.ofNat s)) → ab_go (d + 2) ab_M_X10_layAims 12 lv [] h Q := by
  intro r
  induction r with
  | zero =>
    intro s h ws A B lv hr m hW hF h47 h48 hI f0 f1 f2
    have hq := hW.q hq0
    obtain rfl : s = ST := hr
    refine go_s (pc' := 13) (lv' := lv) (st' := [.int (Int32.ofNat s)]) (h' := h) rfl rfl (po_ild (nL := 0) f2) ?_
    refine go_s (pc' := 14) (lv' := lv) (st' := [.ref 82, .int (Int32.ofNat s)]) (h' := h) rfl rfl (ig_ald f0) ?_
    refine go_get (ci := 10) (k := 32) rfl m.1 hq.2.2.2.2 ?_
    refine go_ic (c := .ge) (off := 59) (tgt := 76) rfl rfl (fun _ => ?_) (fun q => absurd (Int.le_refl _) q)
    exact go_rv rfl rfl (kk h ws A B m hW hF h47 h48 hI)
  | succ r ih =>
    intro s h ws A B lv hr m hW hF h47 h48 hI f0 f1 f2
    have hq := hW.q hq0
    have hls := hlv s (by omega)
    refine go_s (pc' := 13) (lv' := lv) (st' := [.int (Int32.ofNat s)]) (h' := h) rfl rfl (po_ild (nL := 0) f2) ?_
    refine go_s (pc' := 14) (lv' := lv) (st' := [.ref 82, .int (Int32.ofNat s)]) (h' := h) rfl rfl (ig_ald f0) ?_
    refine go_get (ci := 10) (k := 32) rfl m.1 hq.2.2.2.2 ?_
    refine go_ic (c := .ge) (off := 59) (tgt := 76) rfl rfl (fun q => absurd (show (Int32.ofNat ST).toInt ≤ (Int32.ofNat s).toInt from q) (by rw [mk_i (by omega), mk_i (by omega)]; omega)) (fun _ => ?_)
    refine go_s (pc' := 21) (lv' := lv) (st' := [.ref 82]) (h' := h) rfl rfl (ig_ald f0) ?_
    refine go_s (pc' := 22) (lv' := lv) (st' := [.int (Int32.ofNat s), .ref 82]) (h' := h) rfl rfl (po_ild (nL := 0) f2) ?_
    refine go_c rfl rfl (am_cal_am (rest := []) (show 0 ≤ 8 by decide) m.1) rfl (am_run m hq hE (show s < 200 by omega) d) (fun r h' hr => ?_)
    obtain ⟨rfl, rfl⟩ := hr
    show ab_go (d + 2) ab_M_X10_layAims 25 _ [.int (am_v wi nx lvs EV s)] _ _
    refine go_s (pc' := 26) (lv' := lv) (st' := [.int w, .int (am_v wi nx lvs EV s)]) (h' := h') rfl rfl (po_ild (nL := 0) f1) ?_
    refine go_s (pc' := 27) (lv' := lv) (st' := [.int ((am_v wi nx lvs EV s) >>> (w &&& 31))]) (h' := h') rfl rfl rfl ?_
    refine go_s (pc' := 28) (lv' := lv) (st' := [.int 1, .int ((am_v wi nx lvs EV s) >>> (w &&& 31))]) (h' := h') rfl rfl rfl ?_
    refine go_s (pc' := 29) (lv' := lv) (st' := [.int (((am_v wi nx lvs EV s) >>> (w &&& 31)) &&& 1)]) (h' := h') rfl rfl rfl ?_
    refine go_s (pc' := 30) (lv' := lv) (st' := [.int 1, .int (((am_v wi nx lvs EV s) >>> (w &&& 31)) &&& 1)]) (h' := h') rfl rfl rfl ?_
    refine go_ic (c := .ne) (off := 23) (tgt := 53) rfl rfl (fun q => ?_) (fun q => ?_)
    · refine go_s (pc' := 54) (lv' := lv) (st' := [.ref 82]) (h' := h') rfl rfl (ig_ald f0) ?_
      refine go_s (pc' := 55) (lv' := lv) (st' := [.ref 82, .ref 82]) (h' := h') rfl rfl rfl ?_
      refine go_get (ci := 10) (k := 48) rfl m.1 h48 ?_
      refine go_s (pc' := 59) (lv' := lv) (st' := [.long 1, .long B, .ref 82]) (h' := h') rfl rfl rfl ?_
      refine go_s (pc' := 60) (lv' := lv) (st' := [.ref 82, .long 1, .long B, .ref 82]) (h' := h') rfl rfl (ig_ald f0) ?_
      refine go_get (ci := 10) (k := 36) rfl m.1 hq.2.2.2.1 ?_
      refine go_s (pc' := 64) (lv' := lv) (st' := [.int (Int32.ofNat s), .ref 101, .long 1, .long B, .ref 82]) (h' := h') rfl rfl (po_ild (nL := 0) f2) ?_
      refine go_ial (v := lvs s) rfl m.2.2.2 (mk_ix (by omega) (by omega)) (by rw [mk_cl (by omega)]) ?_
      refine go_s (pc' := 66) (lv' := lv) (st' := [.long (1 <<< (Int32.toInt64 (lvs s) &&& 63)), .long B, .ref 82]) (h' := h') rfl rfl rfl ?_
      refine go_s (pc' := 67) (lv' := lv) (st' := [.long (B ||| (1 <<< (Int32.toInt64 (lvs s) &&& 63))), .ref 82]) (h' := h') rfl rfl rfl ?_
      refine go_put rfl m.1 (show 48 < ws.length by rw [hW.1]; omega) am_fl ?_
      refine go_s (pc' := 73) (lv' := (ab_s1 2 (.int (Int32.ofNat (s + 1))) lv)) (st' := []) (h' := (ab_wr h' 82 (.inr (10, ws.set 48 (.long (B ||| (1 <<< (Int32.toInt64 (lvs s) &&& 63)))))))) rfl rfl (mk_inc1 (by decide) (by omega) f2) ?_
      have f2 : ab_lk (ab_s1 2 (.int (Int32.ofNat (s + 1))) lv) 2 = some (.int (Int32.ofNat (s + 1))) := mk_s1s
      have f0 := po_s1_other (v := .int (Int32.ofNat (s + 1))) (i := 2) f0 (by decide) (fun q => absurd q.1 (by decide))
      have f1 := po_s1_other (v := .int (Int32.ofNat (s + 1))) (i := 2) f1 (by decide) (fun q => absurd q.2 (show ¬ (1 : Nat) = 2 by decide))
      generalize ab_s1 2 (.int (Int32.ofNat (s + 1))) lv = lv1 at f0 f1 f2 ⊢
      refine go_goto (off := -61) (tgt := 12) rfl rfl ?_
      have hbit : ¬ am_b (am_v wi nx lvs EV s) w := fun z => q (congrArg Int32.toInt z)
      refine ih (s + 1) _ _ A _ lv1 (by omega) (m.w82 _) (hW.st (by decide) _) (hF.wr _) ((List.getElem?_set_ne (by decide)).trans h47) (List.getElem?_set_self (by rw [hW.1]; omega)) ?_ f0 f1 f2
      exact ⟨fun l hl hb => by
        obtain ⟨s2, a1, a2⟩ := hI.1 l hl hb
        exact ⟨s2, by omega, a2⟩,
        fun l hl hb => by
        rw [mk_or, Bool.or_eq_true] at hb
        rcases hb with hb | hb
        · obtain ⟨s2, a1, a2⟩ := hI.2 l hl hb
          exact ⟨s2, by omega, a2⟩
        · exact ⟨s, by omega, am_sh hls.1 hls.2 hl hb, hbit⟩⟩
    · refine go_s (pc' := 34) (lv' := lv) (st' := [.ref 82]) (h' := h') rfl rfl (ig_ald f0) ?_
      refine go_s (pc' := 35) (lv' := lv) (st' := [.ref 82, .ref 82]) (h' := h') rfl rfl rfl ?_
      refine go_get (ci := 10) (k := 47) rfl m.1 h47 ?_
      refine go_s (pc' := 39) (lv' := lv) (st' := [.long 1, .long A, .ref 82]) (h' := h') rfl rfl rfl ?_
      refine go_s (pc' := 40) (lv' := lv) (st' := [.ref 82, .long 1, .long A, .ref 82]) (h' := h') rfl rfl (ig_ald f0) ?_
      refine go_get (ci := 10) (k := 36) rfl m.1 hq.2.2.2.1 ?_
      refine go_s (pc' := 44) (lv' := lv) (st' := [.int (Int32.ofNat s), .ref 101, .long 1, .long A, .ref 82]) (h' := h') rfl rfl (po_ild (nL := 0) f2) ?_
      refine go_ial (v := lvs s) rfl m.2.2.2 (mk_ix (by omega) (by omega)) (by rw [mk_cl (by omega)]) ?_
      refine go_s (pc' := 46) (lv' := lv) (st' := [.long (1 <<< (Int32.toInt64 (lvs s) &&& 63)), .long A, .ref 82]) (h' := h') rfl rfl rfl ?_
      refine go_s (pc' := 47) (lv' := lv) (st' := [.long (A ||| (1 <<< (Int32.toInt64 (lvs s) &&& 63))), .ref 82]) (h' := h') rfl rfl rfl ?_
      refine go_put rfl m.1 (show 47 < ws.length by rw [hW.1]; omega) am_fl ?_
      refine go_goto (off := 20) (tgt := 70) rfl rfl ?_
      refine go_s (pc' := 73) (lv' := (ab_s1 2 (.int (Int32.ofNat (s + 1))) lv)) (st' := []) (h' := (ab_wr h' 82 (.inr (10, ws.set 47 (.long (A ||| (1 <<< (Int32.toInt64 (lvs s) &&& 63)))))))) rfl rfl (mk_inc1 (by decide) (by omega) f2) ?_
      have f2 : ab_lk (ab_s1 2 (.int (Int32.ofNat (s + 1))) lv) 2 = some (.int (Int32.ofNat (s + 1))) := mk_s1s
      have f0 := po_s1_other (v := .int (Int32.ofNat (s + 1))) (i := 2) f0 (by decide) (fun q => absurd q.1 (by decide))
      have f1 := po_s1_other (v := .int (Int32.ofNat (s + 1))) (i := 2) f1 (by decide) (fun q => absurd q.2 (show ¬ (1 : Nat) = 2 by decide))
      generalize ab_s1 2 (.int (Int32.ofNat (s + 1))) lv = lv1 at f0 f1 f2 ⊢
      refine go_goto (off := -61) (tgt := 12) rfl rfl ?_
      have hbit : am_b (am_v wi nx lvs EV s) w := Int32.toInt_inj.mp (Classical.not_not.mp q)
      refine ih (s + 1) _ _ _ B lv1 (by omega) (m.w82 _) (hW.st (by decide) _) (hF.wr _) (List.getElem?_set_self (by rw [hW.1]; omega)) ((List.getElem?_set_ne (by decide)).trans h48) ?_ f0 f1 f2
      exact ⟨fun l hl hb => by
        rw [mk_or, Bool.or_eq_true] at hb
        rcases hb with hb | hb
        · obtain ⟨s2, a1, a2⟩ := hI.1 l hl hb
          exact ⟨s2, by omega, a2⟩
        · exact ⟨s, by omega, am_sh hls.1 hls.2 hl hb, hbit⟩,
        fun l hl hb => by
        obtain ⟨s2, a1, a2⟩ := hI.2 l hl hb
        exact ⟨s2, by omega, a2⟩⟩
theorem la_run (hq0 : am_Q ws0 EV ST) (hl0 : 48 < ws0.length) (hE : EV ≤ 16) (hS : ST ≤ 200) (hlv : ∀ s, s < 200 → 0 ≤ (lvs s).toInt ∧ (lvs s).toInt ≤ 63) (m : am_M h0 ws0 wi nx lvs) (d : Nat) (w : Int32) : ab_go (d + 2) ab_M_X10_layAims 0 [(0, .ref 82), (1, .int w)] [] h0 (fun r h' => r = none ∧ ∃ (ws : List Value) (A B : Int64), am_M h' ws wi nx lvs ∧ am_W ws0 ws ∧ am_F h0 h' ∧ ws[47]? = some (.long A) ∧ ws[48]? = some (.long B) ∧ am_I wi nx lvs EV ST w A B) := by
  have f0 : ab_lk [(0, Value.ref 82), (1, .int w)] 0 = some (.ref 82) := rfl
  have f1 : ab_lk [(0, Value.ref 82), (1, .int w)] 1 = some (.int w) := rfl
  generalize [(0, Value.ref 82), (1, .int w)] = lv at f0 f1 ⊢
  refine go_s (pc' := 1) (lv' := lv) (st' := [.ref 82]) (h' := h0) rfl rfl (ig_ald f0) ?_
  refine go_s (pc' := 2) (lv' := lv) (st' := [.long 0, .ref 82]) (h' := h0) rfl rfl rfl ?_
  refine go_put rfl m.1 (show 47 < ws0.length by omega) am_fl ?_
  have m1 := m.w82 (ws0.set 47 (.long 0))
  refine go_s (pc' := 6) (lv' := lv) (st' := [.ref 82]) (h' := (ab_wr h0 82 (.inr (10, ws0.set 47 (.long 0))))) rfl rfl (ig_ald f0) ?_
  refine go_s (pc' := 7) (lv' := lv) (st' := [.long 0, .ref 82]) (h' := (ab_wr h0 82 (.inr (10, ws0.set 47 (.long 0))))) rfl rfl rfl ?_
  refine go_put rfl m1.1 (show 48 < (ws0.set 47 (.long 0)).length by rw [List.length_set]; omega) am_fl ?_
  refine go_s (pc' := 11) (lv' := lv) (st' := [.int 0]) (h' := (ab_wr (ab_wr h0 82 (.inr (10, ws0.set 47 (.long 0)))) 82 (.inr (10, (ws0.set 47 (.long 0)).set 48 (.long 0))))) rfl rfl rfl ?_
  refine go_s (pc' := 12) (lv' := (ab_s1 2 (.int 0) lv)) (st' := []) (h' := (ab_wr (ab_wr h0 82 (.inr (10, ws0.set 47 (.long 0)))) 82 (.inr (10, (ws0.set 47 (.long 0)).set 48 (.long 0))))) rfl rfl rfl ?_
  have f2 : ab_lk (ab_s1 2 (.int 0) lv) 2 = some (.int 0) := mk_s1s
  have f0 := po_s1_other (v := .int 0) (i := 2) f0 (by decide) (fun q => absurd q.1 (by decide))
  have f1 := po_s1_other (v := .int 0) (i := 2) f1 (by decide) (fun q => absurd q.2 (show ¬ (1 : Nat) = 2 by decide))
  generalize ab_s1 2 (.int 0) lv = lv1 at f0 f1 f2 ⊢
  exact la_loop (h0 := h0) hq0 hl0 hE hS hlv (fun h ws A B h1 h2 h3 h4 h5 h6 => ⟨rfl, ws, A, B, h1, h2, h3, h4, h5, h6⟩) ST 0 _ _ 0 0 lv1 (by omega) (m1.w82 _) ((am_W.st ⟨rfl, fun _ _ _ => rfl⟩ (by decide) _).st (by decide) _) ((am_F.wr ⟨rfl, rfl, fun _ _ => rfl⟩ _).wr _) ((List.getElem?_set_ne (by decide)).trans (List.getElem?_set_self (by omega))) (List.getElem?_set_self (by rw [List.length_set]; omega)) ⟨fun l hl hb => (by rw [mk_zero] at hb; cases hb), fun l hl hb => (by rw [mk_zero] at hb; cases hb)⟩ f0 f1 f2
end AM2
