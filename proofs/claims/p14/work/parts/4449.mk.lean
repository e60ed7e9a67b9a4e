/-! ===== layMakes: the fewest cubes, then the fewest letters ===== -/
theorem cm_cal_cm {h : ab_H} {X : Int64} {A B : Int32} {rest ws : List Value} (hw : (rest.map fun v => v.category).sum ≤ 8) (h82 : ab_rd h 82 = some (.inr (10, ws))) {i ix : Nat} : ab_cal ab_G (ab_c (.invokevirtual i) 0 196 3 ix) (.int B :: .int A :: .long X :: .ref 82 :: rest) h = some (ab_M_X10_canMake, [.ref 82, .long X, .int A, .int B], rest) := ab_cal_v (As := [.long X, .int A, .int B]) rfl (show ab_G 196 = some ab_M_X10_canMake from rfl) rfl h82 rfl rfl (by unfold ab_cok; rw [Bool.and_eq_true]; exact ⟨rfl, decide_eq_true hw⟩) rfl
theorem mm.w82 {h : ab_H} {ws : List Value} {co cv : Nat → Int64} {cl pt tr ll : Nat → Int32} (m : mm h ws co cl cv pt tr ll) (ws' : List Value) : mm (ab_wr h 82 (.inr (10, ws'))) ws' co cl cv pt tr ll := ⟨ab_rd_self (ab_rd_of m.1).1, (ab_rd_other (by decide)).trans m.2.1, (ab_rd_other (by decide)).trans m.2.2.1, (ab_rd_other (by decide)).trans m.2.2.2.1, (ab_rd_other (by decide)).trans m.2.2.2.2.1, (ab_rd_other (by decide)).trans m.2.2.2.2.2.1, (ab_rd_other (by decide)).trans m.2.2.2.2.2.2⟩
/-- the memory between the calls -/
def lm_S (h : ab_H) (ws : List Value) (co : Nat → Int64) (cl : Nat → Int32) : Prop := ∃ (cv : Nat → Int64) (pt tr ll : Nat → Int32), mm h ws co cl cv pt tr ll ∧ ∀ i, i < 70 → 0 ≤ (tr i).toInt ∧ (tr i).toInt ≤ 729
def lm_F (h0 h : ab_H) : Prop := h.1 = h0.1 ∧ h.2.1 = h0.2.1 ∧ ∀ a, a ≠ 82 → (a < 106 ∨ 109 < a) → h.2.2 a = h0.2.2 a
theorem lm_F.rf {h : ab_H} : lm_F h h := ⟨rfl, rfl, fun _ _ _ => rfl⟩
theorem lm_F.cm {h0 h h' : ab_H} (q : lm_F h0 h) (c : cm_F h h') : lm_F h0 h' := ⟨c.1.trans q.1, c.2.1.trans q.2.1, fun a h1 h2 => (c.2.2 a h2).trans (q.2.2 a h1 h2)⟩
theorem lm_F.wr {h0 h : ab_H} (q : lm_F h0 h) (e : ab_E) : lm_F h0 (ab_wr h 82 e) := ⟨q.1, q.2.1, fun a h1 h2 => (va_up_ne h.2.2 e h1).trans (q.2.2 a h1 h2)⟩
theorem lm_S.w82 {h : ab_H} {ws ws' : List Value} {co : Nat → Int64} {cl : Nat → Int32} (m : lm_S h ws co cl) : lm_S (ab_wr h 82 (.inr (10, ws'))) ws' co cl := by
  obtain ⟨cv, pt, tr, ll, m, t⟩ := m
  exact ⟨cv, pt, tr, ll, m.w82 ws', t⟩
def lm_W (ws0 ws : List Value) : Prop := ws.length = ws0.length ∧ ∀ k, k ≠ 57 → k ≠ 58 → ws[k]? = ws0[k]?
theorem lm_W.rf {ws : List Value} : lm_W ws ws := ⟨rfl, fun _ _ _ => rfl⟩
theorem lm_W.st {ws0 ws : List Value} (q : lm_W ws0 ws) {k : Nat} (hk : k = 57 ∨ k = 58) (v : Value) : lm_W ws0 (ws.set k v) := ⟨(List.length_set ..).trans q.1, fun i h1 h2 => (List.getElem?_set_ne (by omega)).trans (q.2 i h1 h2)⟩
theorem lm_W.mw {ws0 ws : List Value} (q : lm_W ws0 ws) {n : Nat} {on : Int64} (m : mw ws0 n on) : mw ws n on := ⟨m.1, (q.2 47 (by decide) (by decide)).trans m.2.1, (q.2 49 (by decide) (by decide)).trans m.2.2.1, (q.2 51 (by decide) (by decide)).trans m.2.2.2.1, (q.2 52 (by decide) (by decide)).trans m.2.2.2.2.1, (q.2 53 (by decide) (by decide)).trans m.2.2.2.2.2.1, (q.2 54 (by decide) (by decide)).trans m.2.2.2.2.2.2.1, (q.2 55 (by decide) (by decide)).trans m.2.2.2.2.2.2.2.1, (q.2 56 (by decide) (by decide)).trans m.2.2.2.2.2.2.2.2⟩
theorem lm_fit {x : Int32} : ab_fit .int (.int x) = true := by
  unfold ab_fit
  rw [Bool.and_eq_true]
  exact ⟨decide_eq_true rfl, rfl⟩
section LM
variable {d : Nat} {h0 : ab_H} {ws0 : List Value} {co : Nat → Int64} {cl : Nat → Int32} {n : Nat} {on : Int64} {Q : Option Value → ab_H → Prop}
theorem cm_call {h : ab_H} {ws : List Value} {M : Nat} (hw : mw ws n on) (hc : ∀ k, k < n → 0 ≤ (cl k).toInt ∧ (cl k).toInt ≤ 6) (m : lm_S h ws co cl) (d : Nat) (hM : M ≤ 69) (has : Int64) (left : Int32) (hll : 0 ≤ left.toInt ∧ left.toInt ≤ 1000) : ab_go (d + 1) ab_M_X10_canMake 0 [(0, .ref 82), (1, .long has), (3, .int (Int32.ofNat M)), (4, .int left)] [] h (fun r h' => (lm_S h' ws co cl ∧ cm_F h h') ∧ ∃ b : Int32, r = some (.int b) ∧ ((b = 1 ∧ mk_can n co (mk_G cl n) on M has left.toInt) ∨ (b = 0 ∧ ¬ mk_can n co (mk_G cl n) on M has left.toInt))) := by
  obtain ⟨cv, pt, tr, ll, m, t⟩ := m
  refine (cm_run (h0 := h) hw hc ⟨m, cm_F.rf, t⟩ d hM has left hll).mono (fun r h' q => ⟨?_, q.2⟩)
  obtain ⟨⟨cv', pt', tr', ll', m'⟩, -⟩ := q
  exact ⟨⟨cv', pt', tr', ll', m'.1, m'.2.2⟩, m'.2.1⟩
def lm_c (n : Nat) (co : Nat → Int64) (cl : Nat → Int32) (on : Int64) (m : Nat) (has : Int64) (left : Int) : Prop := mk_can n co (mk_G cl n) on m has left
/-- the second loop -/
theorem lm_2 (hw0 : mw ws0 n on) (hl0 : 58 < ws0.length) (hc : ∀ k, k < n → 0 ≤ (cl k).toInt ∧ (cl k).toInt ≤ 6) {J : Nat} (hJ : J ≤ 64) (hJc : lm_c n co cl on J 0 (6 * J : Int))
    (kk : ∀ (h : ab_H) (ws : List Value) (l : Nat), l ≤ 384 → lm_S h ws co cl → lm_W ws0 ws → lm_F h0 h → ws[57]? = some (.int (Int32.ofNat J)) → ws[58]? = some (.int (Int32.ofNat l)) → lm_c n co cl on J 0 l → Q none h) :
    ∀ (r l : Nat) (h : ab_H) (ws : List Value) (lv : ab_L), l + r = 384 → (∀ l' : Nat, l' < l → ¬ lm_c n co cl on J 0 (l' : Int)) → lm_S h ws co cl → lm_W ws0 ws → lm_F h0 h → ws[57]? = some (.int (Int32.ofNat J)) → ws[58]? = some (.int (Int32.ofNat l)) → ab_lk lv 0 = some (.ref 82) → ab_go (d + 2) ab_M_X10_layMakes 42 lv [] h Q := by
  have hsix : ∀ l : Nat, (∀ l' : Nat, l' < l → ¬ lm_c n co cl on J 0 (l' : Int)) → l ≤ 384 := fun l q => Classical.byContradiction (fun z => q (6 * J) (by omega) (by
    have : ((6 * J : Nat) : Int) = 6 * (J : Int) := by omega
    rw [this]; exact hJc))
  intro r
  induction r using Nat.strongRecOn with
  | _ r ih =>
    intro l h ws lv hr hno m hW hF h57 h58 f0
    have hw := hW.mw hw0
    obtain ⟨cv, pt, tr, ll, m1, t⟩ := m
    refine go_s (pc' := 43) (lv' := lv) (st' := [.ref 82]) (h' := h) rfl rfl (ig_ald f0) ?_
    refine go_s (pc' := 44) (lv' := lv) (st' := [.long 0, .ref 82]) (h' := h) rfl rfl rfl ?_
    refine go_s (pc' := 45) (lv' := lv) (st' := [.ref 82, .long 0, .ref 82]) (h' := h) rfl rfl (ig_ald f0) ?_
    refine go_get (ci := 10) (k := 57) rfl m1.1 h57 ?_
    refine go_s (pc' := 49) (lv' := lv) (st' := [.ref 82, .int (Int32.ofNat J), .long 0, .ref 82]) (h' := h) rfl rfl (ig_ald f0) ?_
    refine go_get (ci := 10) (k := 58) rfl m1.1 h58 ?_
    refine go_c rfl rfl (cm_cal_cm (rest := []) (show 0 ≤ 8 by decide) m1.1) rfl (cm_call (M := J) hw hc ⟨cv, pt, tr, ll, m1, t⟩ d (by omega) 0 (Int32.ofNat l) (by rw [mk_i (by omega)]; omega)) (fun r h' hr => ?_)
    obtain ⟨⟨m2, c2⟩, b, rfl, hb⟩ := hr
    show ab_go (d + 2) ab_M_X10_layMakes 55 _ [.int b] _ Q
    rw [mk_i (by omega)] at hb
    refine go_if (c := .ne) (off := 16) (tgt := 71) rfl rfl (fun q => ?_) (fun q => ?_)
    · rcases hb with ⟨_, hb⟩ | ⟨hb, _⟩
      · exact go_rv rfl rfl (kk h' ws l (by omega) m2 hW (hF.cm c2) h57 h58 hb)
      · exact absurd (by rw [hb]; rfl) q
    have hno1 : ¬ lm_c n co cl on J 0 l := by
      rcases hb with ⟨hb, _⟩ | ⟨_, hb⟩
      · exact absurd (show ¬ b.toInt = 0 by rw [hb]; decide) q
      · exact hb
    have hno2 : ∀ l', l' < l + 1 → ¬ lm_c n co cl on J 0 l' := fun l' hl' => by
      by_cases e : l' = l
      · rw [e]; exact hno1
      · exact hno l' (by omega)
    have hl2 := hsix (l + 1) hno2
    have hF2 := hF.cm c2
    clear m1 t cv pt tr ll
    obtain ⟨cv, pt, tr, ll, m1, t⟩ := m2
    refine go_s (pc' := 59) (lv' := lv) (st' := [.ref 82]) (h' := h') rfl rfl (ig_ald f0) ?_
    refine go_s (pc' := 60) (lv' := lv) (st' := [.ref 82, .ref 82]) (h' := h') rfl rfl rfl ?_
    refine go_get (ci := 10) (k := 58) rfl m1.1 h58 ?_
    refine go_s (pc' := 64) (lv' := lv) (st' := [.int 1, .int (Int32.ofNat l), .ref 82]) (h' := h') rfl rfl rfl ?_
    refine go_s (pc' := 65) (lv' := lv) (st' := [.int (Int32.ofNat (l + 1)), .ref 82]) (h' := h') rfl rfl (by show some (_, _, Value.int (Int32.ofNat l + Int32.ofInt 1) :: _, _) = _; rw [mk_inc (by omega)]) ?_
    refine go_put rfl m1.1 (show 58 < ws.length by rw [hW.1]; omega) lm_fit ?_
    refine go_goto (off := -26) (tgt := 42) rfl rfl ?_
    exact ih (r - 1) (by omega) (l + 1) _ _ lv (by omega) hno2 (lm_S.w82 ⟨cv, pt, tr, ll, m1, t⟩) (hW.st (Or.inr rfl) _) (hF2.wr _) ((List.getElem?_set_ne (by decide)).trans h57) (List.getElem?_set_self (by rw [hW.1]; omega)) f0
/-- the first loop -/
theorem lm_1 (hw0 : mw ws0 n on) (hl0 : 58 < ws0.length) (hc : ∀ k, k < n → 0 ≤ (cl k).toInt ∧ (cl k).toInt ≤ 6) (hex : lm_c n co cl on 64 0 1000)
    (kk : ∀ (h : ab_H) (ws : List Value) (J l : Nat), J ≤ 64 → l ≤ 384 → lm_S h ws co cl → lm_W ws0 ws → lm_F h0 h → ws[57]? = some (.int (Int32.ofNat J)) → ws[58]? = some (.int (Int32.ofNat l)) → lm_c n co cl on J 0 l → (∀ j', j' < J → ¬ lm_c n co cl on j' 0 1000) → Q none h) :
    ∀ (r j : Nat) (h : ab_H) (ws : List Value) (lv : ab_L), j + r = 64 → (∀ j', j' < j → ¬ lm_c n co cl on j' 0 1000) → lm_S h ws co cl → lm_W ws0 ws → lm_F h0 h → ws[57]? = some (.int (Int32.ofNat j)) → ab_lk lv 0 = some (.ref 82) → ab_go (d + 2) ab_M_X10_layMakes 9 lv [] h Q := by
  intro r
  induction r using Nat.strongRecOn with
  | _ r ih =>
    intro j h ws lv hr hno m hW hF h57 f0
    have hw := hW.mw hw0
    obtain ⟨cv, pt, tr, ll, m1, t⟩ := m
    refine go_s (pc' := 10) (lv' := lv) (st' := [.ref 82]) (h' := h) rfl rfl (ig_ald f0) ?_
    refine go_s (pc' := 11) (lv' := lv) (st' := [.long 0, .ref 82]) (h' := h) rfl rfl rfl ?_
    refine go_s (pc' := 12) (lv' := lv) (st' := [.ref 82, .long 0, .ref 82]) (h' := h) rfl rfl (ig_ald f0) ?_
    refine go_get (ci := 10) (k := 57) rfl m1.1 h57 ?_
    refine go_s (pc' := 18) (lv' := lv) (st' := [.int 1000, .int (Int32.ofNat j), .long 0, .ref 82]) (h' := h) rfl rfl rfl ?_
    refine go_c rfl rfl (cm_cal_cm (rest := []) (show 0 ≤ 8 by decide) m1.1) rfl (cm_call (M := j) hw hc ⟨cv, pt, tr, ll, m1, t⟩ d (by omega) 0 1000 ⟨by decide, by decide⟩) (fun r h' hr => ?_)
    obtain ⟨⟨m2, c2⟩, b, rfl, hb⟩ := hr
    show ab_go (d + 2) ab_M_X10_layMakes 21 _ [.int b] _ Q
    have hb : (b = 1 ∧ lm_c n co cl on j 0 1000) ∨ (b = 0 ∧ ¬ lm_c n co cl on j 0 1000) := hb
    have hF2 := hF.cm c2
    clear m1 t cv pt tr ll
    refine go_if (c := .ne) (off := 16) (tgt := 37) rfl rfl (fun q => ?_) (fun q => ?_)
    · have hcan : lm_c n co cl on j 0 1000 := by
        rcases hb with ⟨_, hb⟩ | ⟨hb, _⟩
        · exact hb
        · exact absurd (by rw [hb]; rfl) q
      obtain ⟨cv, pt, tr, ll, m1, t⟩ := m2
      refine go_s (pc' := 38) (lv' := lv) (st' := [.ref 82]) (h' := h') rfl rfl (ig_ald f0) ?_
      refine go_s (pc' := 39) (lv' := lv) (st' := [.int 0, .ref 82]) (h' := h') rfl rfl rfl ?_
      refine go_put rfl m1.1 (show 58 < ws.length by rw [hW.1]; omega) lm_fit ?_
      exact lm_2 hw0 hl0 hc (show j ≤ 64 by omega) (mk_six (fun k => mk_Gok hc k) hcan) (fun h ws l h1 h2 h3 h4 h5 h6 h7 => kk h ws j l (by omega) h1 h2 h3 h4 h5 h6 h7 hno) 384 0 _ _ lv (by omega) (fun l' hl' => absurd hl' (Nat.not_lt_zero _)) (lm_S.w82 ⟨cv, pt, tr, ll, m1, t⟩) (hW.st (Or.inr rfl) _) (hF2.wr _) ((List.getElem?_set_ne (by decide)).trans h57) (List.getElem?_set_self (by rw [hW.1]; omega)) f0
    have hno1 : ¬ lm_c n co cl on j 0 1000 := by
      rcases hb with ⟨hb, _⟩ | ⟨_, hb⟩
      · exact absurd (show ¬ b.toInt = 0 by rw [hb]; decide) q
      · exact hb
    have hj : j ≠ 64 := fun z => hno1 (by rw [z]; exact hex)
    obtain ⟨cv, pt, tr, ll, m1, t⟩ := m2
    refine go_s (pc' := 25) (lv' := lv) (st' := [.ref 82]) (h' := h') rfl rfl (ig_ald f0) ?_
    refine go_s (pc' := 26) (lv' := lv) (st' := [.ref 82, .ref 82]) (h' := h') rfl rfl rfl ?_
    refine go_get (ci := 10) (k := 57) rfl m1.1 h57 ?_
    refine go_s (pc' := 30) (lv' := lv) (st' := [.int 1, .int (Int32.ofNat j), .ref 82]) (h' := h') rfl rfl rfl ?_
    refine go_s (pc' := 31) (lv' := lv) (st' := [.int (Int32.ofNat (j + 1)), .ref 82]) (h' := h') rfl rfl (by show some (_, _, Value.int (Int32.ofNat j + Int32.ofInt 1) :: _, _) = _; rw [mk_inc (by omega)]) ?_
    refine go_put rfl m1.1 (show 57 < ws.length by rw [hW.1]; omega) lm_fit ?_
    refine go_goto (off := -25) (tgt := 9) rfl rfl ?_
    refine ih (r - 1) (by omega) (j + 1) _ _ lv (by omega) (fun j' hj' => ?_) (lm_S.w82 ⟨cv, pt, tr, ll, m1, t⟩) (hW.st (Or.inl rfl) _) (hF2.wr _) (List.getElem?_set_self (by rw [hW.1]; omega)) f0
    by_cases e : j' = j
    · rw [e]; exact hno1
    · exact hno j' (by omega)
/-- behind layCubes -/
theorem lm_run {h : ab_H} (hw0 : mw ws0 n on) (hl0 : 58 < ws0.length) (hc : ∀ k, k < n → 0 ≤ (cl k).toInt ∧ (cl k).toInt ≤ 6) (hcov : ∀ i, i < 64 → mk_bt on i = true → ∃ k, k < n ∧ mk_bt (co k) i = true) (m : lm_S h ws0 co cl)
    (kk : ∀ (h' : ab_H) (ws : List Value) (J l : Nat), J ≤ 64 → l ≤ 384 → lm_S h' ws co cl → lm_W ws0 ws → lm_F h h' → ws[57]? = some (.int (Int32.ofNat J)) → ws[58]? = some (.int (Int32.ofNat l)) → lm_c n co cl on J 0 l → (∀ j', j' < J → ¬ lm_c n co cl on j' 0 1000) → Q none h') {lv : ab_L} (f0 : ab_lk lv 0 = some (.ref 82)) : ab_go (d + 2) ab_M_X10_layMakes 4 lv [] h Q := by
  obtain ⟨cv, pt, tr, ll, m1, t⟩ := m
  refine go_s (pc' := 5) (lv' := lv) (st' := [.ref 82]) (h' := h) rfl rfl (ig_ald f0) ?_
  refine go_s (pc' := 6) (lv' := lv) (st' := [.int 0, .ref 82]) (h' := h) rfl rfl rfl ?_
  refine go_put rfl m1.1 (show 57 < ws0.length by omega) rfl ?_
  refine lm_1 hw0 hl0 hc ?_ kk 64 0 _ _ lv (by omega) (fun j' hj' => absurd hj' (Nat.not_lt_zero _)) (lm_S.w82 ⟨cv, pt, tr, ll, m1, t⟩) (lm_W.rf.st (Or.inl rfl) _) (lm_F.rf.wr _) (List.getElem?_set_self (by omega)) f0
  have := mk_exists (fun k => mk_Gok hc k) hcov 64 0 (mk_cnt_le on 0 64)
  exact mk_sub (fun i _ q => q) (by decide) (fun _ => True.intro) this
end LM
