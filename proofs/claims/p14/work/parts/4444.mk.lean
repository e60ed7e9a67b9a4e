section HD
variable {d : Nat} {h : ab_H} {ws : List Value} {co cv : Nat → Int64} {cl pt tr ll : Nat → Int32} {n : Nat} {on X : Int64} {Q : Option Value → ab_H → Prop}
def hd_I (X : Int64) (B LE : Int32) (v : Nat) : Prop := (B = -4 ∧ LE = 1000 ∧ ∀ j, j < v → mk_bt X j = false) ∨ ∃ u, u < 64 ∧ B = Int32.ofNat u ∧ mk_bt X u = true
def hd_R (X : Int64) (b : Int32) : Prop := (b = -4 ∧ X = 0) ∨ ∃ u, u < 64 ∧ b = Int32.ofNat u ∧ mk_bt X u = true
theorem hd_out (m : mm h ws co cl cv pt tr ll) (hw : mw ws n on) (kk : ∀ b : Int32, hd_R X b → Q (some (.int b)) h) :
    ∀ (r v : Nat) (B LE : Int32) (lv : ab_L), v + r = 64 → hd_I X B LE v → ab_lk lv 0 = some (.ref 82) → ab_lk lv 1 = some (.long X) → ab_lk lv 3 = some (.int B) → ab_lk lv 4 = some (.int LE) → ab_lk lv 5 = some (.int (Int32.ofNat v)) → ab_go d ab_M_X10_hardest 11 lv [] h Q := by
  intro r
  induction r with
  | zero =>
    intro v B LE lv hr hI f0 f1 f3 f4 f5
    refine go_s (pc' := 13) (lv' := lv) (st' := [.int (Int32.ofNat v)]) (h' := h) rfl rfl (po_ild (nL := 0) f5) ?_
    refine go_s (pc' := 15) (lv' := lv) (st' := [.int 64, .int (Int32.ofNat v)]) (h' := h) rfl rfl rfl ?_
    refine go_ic (c := .ge) (off := 89) (tgt := 104) rfl rfl (fun _ => ?_) (fun q => ?_)
    · refine go_s (pc' := 105) (lv' := lv) (st' := [.int B]) (h' := h) rfl rfl (po_ild (nL := 0) f3) ?_
      refine go_ri (v := B) rfl rfl (kk B ?_)
      rcases hI with ⟨h1, h2, h3⟩ | h1
      · exact Or.inl ⟨h1, mk_eq0.mpr (fun i hi => h3 i (by omega))⟩
      · exact Or.inr h1
    · exact absurd (show (64 : Int32).toInt ≤ (Int32.ofNat v).toInt by rw [mk_i (by omega)]; show (64 : Int) ≤ v; omega) q
  | succ r ih =>
    intro v B LE lv hr hI f0 f1 f3 f4 f5
    refine go_s (pc' := 13) (lv' := lv) (st' := [.int (Int32.ofNat v)]) (h' := h) rfl rfl (po_ild (nL := 0) f5) ?_
    refine go_s (pc' := 15) (lv' := lv) (st' := [.int 64, .int (Int32.ofNat v)]) (h' := h) rfl rfl rfl ?_
    refine go_ic (c := .ge) (off := 89) (tgt := 104) rfl rfl (fun q => ?_) (fun _ => ?_)
    · have q : (64 : Int32).toInt ≤ (Int32.ofNat v).toInt := q
      rw [mk_i (by omega)] at q
      have q : (64 : Int) ≤ v := q
      omega
    · refine go_s (pc' := 19) (lv' := lv) (st' := [.long X]) (h' := h) rfl rfl (mk_lld f1) ?_
      refine go_s (pc' := 21) (lv' := lv) (st' := [.int (Int32.ofNat v), .long X]) (h' := h) rfl rfl (po_ild (nL := 0) f5) ?_
      refine go_s (pc' := 22) (lv' := lv) (st' := [.long (X >>> (Int32.toInt64 (Int32.ofNat v) &&& 63))]) (h' := h) rfl rfl rfl ?_
      refine go_s (pc' := 23) (lv' := lv) (st' := [.long 1, .long (X >>> (Int32.toInt64 (Int32.ofNat v) &&& 63))]) (h' := h) rfl rfl rfl ?_
      refine go_s (pc' := 24) (lv' := lv) (st' := [.long (if mk_bt X v = true then 1 else 0)]) (h' := h) rfl rfl (by rw [← mk_bit X (show v < 64 by omega)]; rfl) ?_
      refine go_s (pc' := 25) (lv' := lv) (st' := [.long 1, .long (if mk_bt X v = true then 1 else 0)]) (h' := h) rfl rfl rfl ?_
      refine go_s (pc' := 26) (lv' := lv) (st' := [.int (lg_cmp (if mk_bt X v = true then 1 else 0) 1)]) (h' := h) rfl rfl rfl ?_
      refine go_ifl (c := .ne) (off := 72) (tgt := 98) rfl rfl (fun q => ?_) (fun q => ?_)
      · have hb := (mk_cmp1 (mk_bt X v)).mp q
        refine go_s (pc' := 101) (lv' := (ab_s1 5 (.int (Int32.ofNat (v + 1))) lv)) (st' := []) (h' := h) rfl rfl (mk_inc1 (by decide) (by omega) f5) ?_
        have f5 : ab_lk (ab_s1 5 (.int (Int32.ofNat (v + 1))) lv) 5 = some (.int (Int32.ofNat (v + 1))) := mk_s1s
        have f0 := po_s1_other (v := .int (Int32.ofNat (v + 1))) (i := 5) f0 (by decide) (fun q => absurd q.1 (by decide))
        have f1 := po_s1_other (v := .int (Int32.ofNat (v + 1))) (i := 5) f1 (by decide) (fun q => absurd q.1 (by decide))
        have f3 := po_s1_other (v := .int (Int32.ofNat (v + 1))) (i := 5) f3 (by decide) (fun q => absurd q.1 (by decide))
        have f4 := po_s1_other (v := .int (Int32.ofNat (v + 1))) (i := 5) f4 (by decide) (fun q => absurd q.2 (show ¬ (1 : Nat) = 2 by decide))
        generalize ab_s1 5 (.int (Int32.ofNat (v + 1))) lv = lv1 at f0 f1 f3 f4 f5 ⊢
        refine go_goto (off := -90) (tgt := 11) rfl rfl ?_
        exact ih (v + 1) B LE lv1 (by omega) (by
          rcases hI with ⟨h1, h2, h3⟩ | h1
          · refine Or.inl ⟨h1, h2, fun j hj => ?_⟩
            by_cases e : j = v
            · rw [e]; exact hb
            · exact h3 j (by omega)
          · exact Or.inr h1) f0 f1 f3 f4 f5
      · have hb : mk_bt X v = true := by
          cases e : mk_bt X v with
          | true => rfl
          | false => rw [e] at q; exact absurd ((mk_cmp1 false).mpr rfl) q
        refine go_s (pc' := 30) (lv' := lv) (st' := [.int 0]) (h' := h) rfl rfl rfl ?_
        refine go_s (pc' := 32) (lv' := (ab_s1 6 (.int 0) lv)) (st' := []) (h' := h) rfl rfl rfl ?_
        have f6 : ab_lk (ab_s1 6 (.int 0) lv) 6 = some (.int 0) := mk_s1s
        have f0 := po_s1_other (v := .int 0) (i := 6) f0 (by decide) (fun q => absurd q.1 (by decide))
        have f1 := po_s1_other (v := .int 0) (i := 6) f1 (by decide) (fun q => absurd q.1 (by decide))
        have f3 := po_s1_other (v := .int 0) (i := 6) f3 (by decide) (fun q => absurd q.1 (by decide))
        have f4 := po_s1_other (v := .int 0) (i := 6) f4 (by decide) (fun q => absurd q.1 (by decide))
        have f5 := po_s1_other (v := .int 0) (i := 6) f5 (by decide) (fun q => absurd q.2 (show ¬ (1 : Nat) = 2 by decide))
        generalize ab_s1 6 (.int 0) lv = lv1 at f0 f1 f3 f4 f5 f6 ⊢
        refine go_s (pc' := 33) (lv' := lv1) (st' := [.int 0]) (h' := h) rfl rfl rfl ?_
        refine go_s (pc' := 35) (lv' := (ab_s1 7 (.int 0) lv1)) (st' := []) (h' := h) rfl rfl rfl ?_
        have f7 : ab_lk (ab_s1 7 (.int 0) lv1) 7 = some (.int 0) := mk_s1s
        have f0 := po_s1_other (v := .int 0) (i := 7) f0 (by decide) (fun q => absurd q.1 (by decide))
        have f1 := po_s1_other (v := .int 0) (i := 7) f1 (by decide) (fun q => absurd q.1 (by decide))
        have f3 := po_s1_other (v := .int 0) (i := 7) f3 (by decide) (fun q => absurd q.1 (by decide))
        have f4 := po_s1_other (v := .int 0) (i := 7) f4 (by decide) (fun q => absurd q.1 (by decide))
        have f5 := po_s1_other (v := .int 0) (i := 7) f5 (by decide) (fun q => absurd q.1 (by decide))
        have f6 := po_s1_other (v := .int 0) (i := 7) f6 (by decide) (fun q => absurd q.2 (show ¬ (1 : Nat) = 2 by decide))
        generalize ab_s1 7 (.int 0) lv1 = lv2 at f0 f1 f3 f4 f5 f6 f7 ⊢
        refine hd_in m hw (show v < 64 by omega) (B := B) (LE := LE) (fun c lv hc f0 f1 f3 f4 f5 f6 => ?_) n 0 0 lv2 (by omega) (Nat.le_refl _) f0 f1 f3 f4 f5 f6 f7
        refine go_s (pc' := 70) (lv' := lv) (st' := [.int (Int32.ofNat c)]) (h' := h) rfl rfl (po_ild (nL := 0) f6) ?_
        refine go_s (pc' := 72) (lv' := lv) (st' := [.int LE, .int (Int32.ofNat c)]) (h' := h) rfl rfl (po_ild (nL := 0) f4) ?_
        refine go_ic (c := .ge) (off := 8) (tgt := 80) rfl rfl (fun q => ?_) (fun q => ?_)
        · refine go_s (pc' := 81) (lv' := lv) (st' := [.int B]) (h' := h) rfl rfl (po_ild (nL := 0) f3) ?_
          refine go_s (pc' := 82) (lv' := (ab_s1 3 (.int B) lv)) (st' := []) (h' := h) rfl rfl rfl ?_
          have f3 : ab_lk (ab_s1 3 (.int B) lv) 3 = some (.int B) := mk_s1s
          have f0 := po_s1_other (v := .int B) (i := 3) f0 (by decide) (fun q => absurd q.1 (by decide))
          have f1 := po_s1_other (v := .int B) (i := 3) f1 (by decide) (fun q => absurd q.1 (by decide))
          have f4 := po_s1_other (v := .int B) (i := 3) f4 (by decide) (fun q => absurd q.1 (by decide))
          have f5 := po_s1_other (v := .int B) (i := 3) f5 (by decide) (fun q => absurd q.1 (by decide))
          have f6 := po_s1_other (v := .int B) (i := 3) f6 (by decide) (fun q => absurd q.1 (by decide))
          generalize ab_s1 3 (.int B) lv = lv3 at f0 f1 f3 f4 f5 f6 ⊢
          refine go_s (pc' := 84) (lv' := lv3) (st' := [.int (Int32.ofNat c)]) (h' := h) rfl rfl (po_ild (nL := 0) f6) ?_
          refine go_s (pc' := 86) (lv' := lv3) (st' := [.int LE, .int (Int32.ofNat c)]) (h' := h) rfl rfl (po_ild (nL := 0) f4) ?_
          refine go_ic (c := .ge) (off := 8) (tgt := 94) rfl rfl (fun q2 => ?_) (fun q2 => ?_)
          · refine go_s (pc' := 96) (lv' := lv3) (st' := [.int LE]) (h' := h) rfl rfl (po_ild (nL := 0) f4) ?_
            refine go_s (pc' := 98) (lv' := (ab_s1 4 (.int LE) lv3)) (st' := []) (h' := h) rfl rfl rfl ?_
            have f4 : ab_lk (ab_s1 4 (.int LE) lv3) 4 = some (.int LE) := mk_s1s
            have f0 := po_s1_other (v := .int LE) (i := 4) f0 (by decide) (fun q => absurd q.1 (by decide))
            have f1 := po_s1_other (v := .int LE) (i := 4) f1 (by decide) (fun q => absurd q.1 (by decide))
            have f3 := po_s1_other (v := .int LE) (i := 4) f3 (by decide) (fun q => absurd q.2 (show ¬ (1 : Nat) = 2 by decide))
            have f5 := po_s1_other (v := .int LE) (i := 4) f5 (by decide) (fun q => absurd q.1 (by decide))
            have f6 := po_s1_other (v := .int LE) (i := 4) f6 (by decide) (fun q => absurd q.1 (by decide))
            generalize ab_s1 4 (.int LE) lv3 = lv4 at f0 f1 f3 f4 f5 f6 ⊢
            refine go_s (pc' := 101) (lv' := (ab_s1 5 (.int (Int32.ofNat (v + 1))) lv4)) (st' := []) (h' := h) rfl rfl (mk_inc1 (by decide) (by omega) f5) ?_
            have f5 : ab_lk (ab_s1 5 (.int (Int32.ofNat (v + 1))) lv4) 5 = some (.int (Int32.ofNat (v + 1))) := mk_s1s
            have f0 := po_s1_other (v := .int (Int32.ofNat (v + 1))) (i := 5) f0 (by decide) (fun q => absurd q.1 (by decide))
            have f1 := po_s1_other (v := .int (Int32.ofNat (v + 1))) (i := 5) f1 (by decide) (fun q => absurd q.1 (by decide))
            have f3 := po_s1_other (v := .int (Int32.ofNat (v + 1))) (i := 5) f3 (by decide) (fun q => absurd q.1 (by decide))
            have f4 := po_s1_other (v := .int (Int32.ofNat (v + 1))) (i := 5) f4 (by decide) (fun q => absurd q.2 (show ¬ (1 : Nat) = 2 by decide))
            have f6 := po_s1_other (v := .int (Int32.ofNat (v + 1))) (i := 5) f6 (by decide) (fun q => absurd q.1 (by decide))
            generalize ab_s1 5 (.int (Int32.ofNat (v + 1))) lv4 = lv5 at f0 f1 f3 f4 f5 f6 ⊢
            refine go_goto (off := -90) (tgt := 11) rfl rfl ?_
            exact ih (v + 1) B LE lv5 (by omega) (by
              rcases hI with ⟨h1, h2, h3⟩ | h1
              · have q : LE.toInt ≤ (Int32.ofNat c).toInt := q
                rw [mk_i (by omega), h2] at q
                have q : (1000 : Int) ≤ c := q
                omega
              · exact Or.inr h1) f0 f1 f3 f4 f5
          · exact absurd q q2
        · refine go_s (pc' := 77) (lv' := lv) (st' := [.int (Int32.ofNat v)]) (h' := h) rfl rfl (po_ild (nL := 0) f5) ?_
          refine go_goto (off := 4) (tgt := 81) rfl rfl ?_
          refine go_s (pc' := 82) (lv' := (ab_s1 3 (.int (Int32.ofNat v)) lv)) (st' := []) (h' := h) rfl rfl rfl ?_
          have f3 : ab_lk (ab_s1 3 (.int (Int32.ofNat v)) lv) 3 = some (.int (Int32.ofNat v)) := mk_s1s
          have f0 := po_s1_other (v := .int (Int32.ofNat v)) (i := 3) f0 (by decide) (fun q => absurd q.1 (by decide))
          have f1 := po_s1_other (v := .int (Int32.ofNat v)) (i := 3) f1 (by decide) (fun q => absurd q.1 (by decide))
          have f4 := po_s1_other (v := .int (Int32.ofNat v)) (i := 3) f4 (by decide) (fun q => absurd q.1 (by decide))
          have f5 := po_s1_other (v := .int (Int32.ofNat v)) (i := 3) f5 (by decide) (fun q => absurd q.1 (by decide))
          have f6 := po_s1_other (v := .int (Int32.ofNat v)) (i := 3) f6 (by decide) (fun q => absurd q.1 (by decide))
          generalize ab_s1 3 (.int (Int32.ofNat v)) lv = lv3 at f0 f1 f3 f4 f5 f6 ⊢
          refine go_s (pc' := 84) (lv' := lv3) (st' := [.int (Int32.ofNat c)]) (h' := h) rfl rfl (po_ild (nL := 0) f6) ?_
          refine go_s (pc' := 86) (lv' := lv3) (st' := [.int LE, .int (Int32.ofNat c)]) (h' := h) rfl rfl (po_ild (nL := 0) f4) ?_
          refine go_ic (c := .ge) (off := 8) (tgt := 94) rfl rfl (fun q2 => ?_) (fun q2 => ?_)
          · exact absurd q2 q
          · refine go_s (pc' := 91) (lv' := lv3) (st' := [.int (Int32.ofNat c)]) (h' := h) rfl rfl (po_ild (nL := 0) f6) ?_
            refine go_goto (off := 5) (tgt := 96) rfl rfl ?_
            refine go_s (pc' := 98) (lv' := (ab_s1 4 (.int (Int32.ofNat c)) lv3)) (st' := []) (h' := h) rfl rfl rfl ?_
            have f4 : ab_lk (ab_s1 4 (.int (Int32.ofNat c)) lv3) 4 = some (.int (Int32.ofNat c)) := mk_s1s
            have f0 := po_s1_other (v := .int (Int32.ofNat c)) (i := 4) f0 (by decide) (fun q => absurd q.1 (by decide))
            have f1 := po_s1_other (v := .int (Int32.ofNat c)) (i := 4) f1 (by decide) (fun q => absurd q.1 (by decide))
            have f3 := po_s1_other (v := .int (Int32.ofNat c)) (i := 4) f3 (by decide) (fun q => absurd q.2 (show ¬ (1 : Nat) = 2 by decide))
            have f5 := po_s1_other (v := .int (Int32.ofNat c)) (i := 4) f5 (by decide) (fun q => absurd q.1 (by decide))
            have f6 := po_s1_other (v := .int (Int32.ofNat c)) (i := 4) f6 (by decide) (fun q => absurd q.1 (by decide))
            generalize ab_s1 4 (.int (Int32.ofNat c)) lv3 = lv4 at f0 f1 f3 f4 f5 f6 ⊢
            refine go_s (pc' := 101) (lv' := (ab_s1 5 (.int (Int32.ofNat (v + 1))) lv4)) (st' := []) (h' := h) rfl rfl (mk_inc1 (by decide) (by omega) f5) ?_
            have f5 : ab_lk (ab_s1 5 (.int (Int32.ofNat (v + 1))) lv4) 5 = some (.int (Int32.ofNat (v + 1))) := mk_s1s
            have f0 := po_s1_other (v := .int (Int32.ofNat (v + 1))) (i := 5) f0 (by decide) (fun q => absurd q.1 (by decide))
            have f1 := po_s1_other (v := .int (Int32.ofNat (v + 1))) (i := 5) f1 (by decide) (fun q => absurd q.1 (by decide))
            have f3 := po_s1_other (v := .int (Int32.ofNat (v + 1))) (i := 5) f3 (by decide) (fun q => absurd q.1 (by decide))
            have f4 := po_s1_other (v := .int (Int32.ofNat (v + 1))) (i := 5) f4 (by decide) (fun q => absurd q.2 (show ¬ (1 : Nat) = 2 by decide))
            have f6 := po_s1_other (v := .int (Int32.ofNat (v + 1))) (i := 5) f6 (by decide) (fun q => absurd q.1 (by decide))
            generalize ab_s1 5 (.int (Int32.ofNat (v + 1))) lv4 = lv5 at f0 f1 f3 f4 f5 f6 ⊢
            refine go_goto (off := -90) (tgt := 11) rfl rfl ?_
            exact ih (v + 1) (Int32.ofNat v) (Int32.ofNat c) lv5 (by omega) (Or.inr ⟨v, by omega, rfl, hb⟩) f0 f1 f3 f4 f5
theorem hd_run (m : mm h ws co cl cv pt tr ll) (hw : mw ws n on) (d : Nat) (X : Int64) : ab_go d ab_M_X10_hardest 0 [(0, .ref 82), (1, .long X)] [] h (fun r h' => h' = h ∧ ∃ b : Int32, r = some (.int b) ∧ hd_R X b) := by
  have f0 : ab_lk [(0, Value.ref 82), (1, .long X)] 0 = some (.ref 82) := rfl
  have f1 : ab_lk [(0, Value.ref 82), (1, .long X)] 1 = some (.long X) := rfl
  generalize [(0, Value.ref 82), (1, .long X)] = lv at f0 f1 ⊢
  refine go_s (pc' := 2) (lv' := lv) (st' := [.int (-4)]) (h' := h) rfl rfl rfl ?_
  refine go_s (pc' := 3) (lv' := (ab_s1 3 (.int (-4)) lv)) (st' := []) (h' := h) rfl rfl rfl ?_
  have f3 : ab_lk (ab_s1 3 (.int (-4)) lv) 3 = some (.int (-4)) := mk_s1s
  have f0 := po_s1_other (v := .int (-4)) (i := 3) f0 (by decide) (fun q => absurd q.1 (by decide))
  have f1 := po_s1_other (v := .int (-4)) (i := 3) f1 (by decide) (fun q => absurd q.1 (by decide))
  generalize ab_s1 3 (.int (-4)) lv = lv1 at f0 f1 f3 ⊢
  refine go_s (pc' := 6) (lv' := lv1) (st' := [.int 1000]) (h' := h) rfl rfl rfl ?_
  refine go_s (pc' := 8) (lv' := (ab_s1 4 (.int 1000) lv1)) (st' := []) (h' := h) rfl rfl rfl ?_
  have f4 : ab_lk (ab_s1 4 (.int 1000) lv1) 4 = some (.int 1000) := mk_s1s
  have f0 := po_s1_other (v := .int 1000) (i := 4) f0 (by decide) (fun q => absurd q.1 (by decide))
  have f1 := po_s1_other (v := .int 1000) (i := 4) f1 (by decide) (fun q => absurd q.1 (by decide))
  have f3 := po_s1_other (v := .int 1000) (i := 4) f3 (by decide) (fun q => absurd q.2 (show ¬ (1 : Nat) = 2 by decide))
  generalize ab_s1 4 (.int 1000) lv1 = lv2 at f0 f1 f3 f4 ⊢
  refine go_s (pc' := 9) (lv' := lv2) (st' := [.int 0]) (h' := h) rfl rfl rfl ?_
  refine go_s (pc' := 11) (lv' := (ab_s1 5 (.int 0) lv2)) (st' := []) (h' := h) rfl rfl rfl ?_
  have f5 : ab_lk (ab_s1 5 (.int 0) lv2) 5 = some (.int 0) := mk_s1s
  have f0 := po_s1_other (v := .int 0) (i := 5) f0 (by decide) (fun q => absurd q.1 (by decide))
  have f1 := po_s1_other (v := .int 0) (i := 5) f1 (by decide) (fun q => absurd q.1 (by decide))
  have f3 := po_s1_other (v := .int 0) (i := 5) f3 (by decide) (fun q => absurd q.1 (by decide))
  have f4 := po_s1_other (v := .int 0) (i := 5) f4 (by decide) (fun q => absurd q.2 (show ¬ (1 : Nat) = 2 by decide))
  generalize ab_s1 5 (.int 0) lv2 = lv3 at f0 f1 f3 f4 f5 ⊢
  refine hd_out m hw (fun b hb => ⟨rfl, b, rfl, hb⟩) 64 0 (-4) 1000 lv3 (by omega) (Or.inl ⟨rfl, rfl, fun j hj => absurd hj (Nat.not_lt_zero _)⟩) f0 f1 f3 f4 f5
end HD
