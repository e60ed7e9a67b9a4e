section LL4
variable {N d : Nat} {h0 : ab_H} {ws : List Value} {wi nx va : Nat → Int32} {EV ST W w : Nat} {v : Int32} {Q : Option Value → ab_H → Prop}
theorem ll_2 (hq : ll_Q ws EV ST) (hW : W ≤ 6) (hw : w < W) (hva : ∀ j, j < 16 → va j = 0 ∨ va j = 1) (hv : v = 0 ∨ v = 1) (kk : ∀ (x : Int32) (h : ab_H), ll_S h0 ws wi nx va W ST h → Q (some (.int x)) h) : ∀ (N : Nat) (h : ab_H) (lv : ab_L) (a3 : Int32), ll_S h0 ws wi nx va W ST h → ab_lk lv 0 = some (.ref 82) → ab_lk lv 1 = some (.int (Int32.ofNat w)) → ab_lk lv 2 = some (.int v) → ab_lk lv 3 = some (.int a3) → ab_pa N d ab_M_X10_layLevels 2 lv [] h Q := by
  intro N
  induction N with
  | zero => intro h lv a3 S f0 f1 f2 f3; exact pa_zero
  | succ N ih =>
    intro h lv a3 S f0 f1 f2 f3
    have K := ll_all (d := d) (N := N) hq hW hw hva kk
    obtain ⟨lvs, fl, m, hG, hF⟩ := S
    refine pa_lt (pc' := 3) (lv' := lv) (st' := [.int a3]) (h' := h) rfl rfl (po_ild (nL := 0) f3) ?_
    refine pa_s (pc' := 4) (lv' := lv) (st' := [.ref 82, .int a3]) (h' := h) rfl rfl (ig_ald f0) ?_
    refine pa_get (ci := 10) (k := 32) rfl m.1 hq.2.2.2.2.1 ?_
    refine pa_ic (c := .ge) (off := 16) (tgt := 23) rfl rfl (fun _ => ?_) (fun _ => ?_)
    · refine pa_s (pc' := 24) (lv' := lv) (st' := [.ref 82]) (h' := h) rfl rfl (ig_ald f0) ?_
      refine pa_get (ci := 10) (k := 38) rfl m.1 hq.2.2.2.2.2.2 ?_
      refine pa_s (pc' := 28) (lv' := lv) (st' := [.int 0, .ref 102]) (h' := h) rfl rfl rfl ?_
      refine pa_s (pc' := 29) (lv' := lv) (st' := [.int 1, .int 0, .ref 102]) (h' := h) rfl rfl rfl ?_
      refine px_bas rfl m.2.2.2.2.2 (by decide) (fun g => ?_)
      have m1 := m.w102 g
      refine pa_s (pc' := 31) (lv' := lv) (st' := [.ref 82]) (h' := (ab_wr h 102 (.inl (3, 200, .inl g)))) rfl rfl (ig_ald f0) ?_
      refine pa_get (ci := 10) (k := 36) rfl m1.1 hq.2.2.2.1 ?_
      refine pa_s (pc' := 35) (lv' := lv) (st' := [.int 0, .ref 101]) (h' := (ab_wr h 102 (.inl (3, 200, .inl g)))) rfl rfl rfl ?_
      refine pa_s (pc' := 36) (lv' := lv) (st' := [.ref 82, .int 0, .ref 101]) (h' := (ab_wr h 102 (.inl (3, 200, .inl g)))) rfl rfl (ig_ald f0) ?_
      refine pa_get (ci := 10) (k := 36) rfl m1.1 hq.2.2.2.1 ?_
      refine pa_s (pc' := 40) (lv' := lv) (st' := [.int 0, .ref 101, .int 0, .ref 101]) (h' := (ab_wr h 102 (.inl (3, 200, .inl g)))) rfl rfl rfl ?_
      refine px_ial rfl m1.2.2.2.1 (fun hi40 => ?_)
      refine pa_s (pc' := 42) (lv' := lv) (st' := [.int 1, .int (lvs (0 : Int32).toNatClampNeg), .int 0, .ref 101]) (h' := (ab_wr h 102 (.inl (3, 200, .inl g)))) rfl rfl rfl ?_
      refine pa_s (pc' := 43) (lv' := lv) (st' := [.int (Int32.ofNat w), .int 1, .int (lvs (0 : Int32).toNatClampNeg), .int 0, .ref 101]) (h' := (ab_wr h 102 (.inl (3, 200, .inl g)))) rfl rfl (po_ild (nL := 0) f1) ?_
      refine pa_s (pc' := 44) (lv' := lv) (st' := [.int (1 <<< ((Int32.ofNat w) &&& 31)), .int (lvs (0 : Int32).toNatClampNeg), .int 0, .ref 101]) (h' := (ab_wr h 102 (.inl (3, 200, .inl g)))) rfl rfl rfl ?_
      refine pa_s (pc' := 45) (lv' := lv) (st' := [.int (-1), .int (1 <<< ((Int32.ofNat w) &&& 31)), .int (lvs (0 : Int32).toNatClampNeg), .int 0, .ref 101]) (h' := (ab_wr h 102 (.inl (3, 200, .inl g)))) rfl rfl rfl ?_
      refine pa_s (pc' := 46) (lv' := lv) (st' := [.int ((1 <<< ((Int32.ofNat w) &&& 31)) ^^^ (-1)), .int (lvs (0 : Int32).toNatClampNeg), .int 0, .ref 101]) (h' := (ab_wr h 102 (.inl (3, 200, .inl g)))) rfl rfl rfl ?_
      refine pa_s (pc' := 47) (lv' := lv) (st' := [.int ((lvs (0 : Int32).toNatClampNeg) &&& ((1 <<< ((Int32.ofNat w) &&& 31)) ^^^ (-1))), .int 0, .ref 101]) (h' := (ab_wr h 102 (.inl (3, 200, .inl g)))) rfl rfl rfl ?_
      refine pa_s (pc' := 48) (lv' := lv) (st' := [.int v, .int ((lvs (0 : Int32).toNatClampNeg) &&& ((1 <<< ((Int32.ofNat w) &&& 31)) ^^^ (-1))), .int 0, .ref 101]) (h' := (ab_wr h 102 (.inl (3, 200, .inl g)))) rfl rfl (po_ild (nL := 0) f2) ?_
      refine pa_s (pc' := 49) (lv' := lv) (st' := [.int (Int32.ofNat w), .int v, .int ((lvs (0 : Int32).toNatClampNeg) &&& ((1 <<< ((Int32.ofNat w) &&& 31)) ^^^ (-1))), .int 0, .ref 101]) (h' := (ab_wr h 102 (.inl (3, 200, .inl g)))) rfl rfl (po_ild (nL := 0) f1) ?_
      refine pa_s (pc' := 50) (lv' := lv) (st' := [.int (v <<< ((Int32.ofNat w) &&& 31)), .int ((lvs (0 : Int32).toNatClampNeg) &&& ((1 <<< ((Int32.ofNat w) &&& 31)) ^^^ (-1))), .int 0, .ref 101]) (h' := (ab_wr h 102 (.inl (3, 200, .inl g)))) rfl rfl rfl ?_
      refine pa_s (pc' := 51) (lv' := lv) (st' := [.int (((lvs (0 : Int32).toNatClampNeg) &&& ((1 <<< ((Int32.ofNat w) &&& 31)) ^^^ (-1))) ||| (v <<< ((Int32.ofNat w) &&& 31))), .int 0, .ref 101]) (h' := (ab_wr h 102 (.inl (3, 200, .inl g)))) rfl rfl rfl ?_
      refine px_ias rfl m1.2.2.2.1 (by decide) (fun _ => ?_)
      have m2 := m1.w101 (upd lvs (0 : Int32).toNatClampNeg (((lvs (0 : Int32).toNatClampNeg) &&& ((1 <<< ((Int32.ofNat w) &&& 31)) ^^^ (-1))) ||| (v <<< ((Int32.ofNat w) &&& 31))))
      refine pa_s (pc' := 53) (lv' := lv) (st' := [.int 1]) (h' := (ab_wr (ab_wr h 102 (.inl (3, 200, .inl g))) 101 (.inl (0, 200, .inl (upd lvs (0 : Int32).toNatClampNeg (((lvs (0 : Int32).toNatClampNeg) &&& ((1 <<< ((Int32.ofNat w) &&& 31)) ^^^ (-1))) ||| (v <<< ((Int32.ofNat w) &&& 31)))))))) rfl rfl rfl ?_
      refine pa_s (pc' := 54) (lv' := (ab_s1 3 (.int 1) lv)) (st' := []) (h' := (ab_wr (ab_wr h 102 (.inl (3, 200, .inl g))) 101 (.inl (0, 200, .inl (upd lvs (0 : Int32).toNatClampNeg (((lvs (0 : Int32).toNatClampNeg) &&& ((1 <<< ((Int32.ofNat w) &&& 31)) ^^^ (-1))) ||| (v <<< ((Int32.ofNat w) &&& 31)))))))) rfl rfl rfl ?_
      have f3 : ab_lk (ab_s1 3 (.int 1) lv) 3 = some (.int 1) := mk_s1s
      have f0 := po_s1_other (v := .int 1) (i := 3) f0 (by decide) (fun q => absurd q.1 (by decide))
      have f1 := po_s1_other (v := .int 1) (i := 3) f1 (by decide) (fun q => absurd q.1 (by decide))
      have f2 := po_s1_other (v := .int 1) (i := 3) f2 (by decide) (fun q => absurd q.2 (show ¬ (1 : Nat) = 2 by decide))
      generalize ab_s1 3 (.int 1) lv = lv1 at f0 f1 f2 f3 ⊢
      refine pa_s (pc' := 55) (lv' := lv1) (st' := [.int 1]) (h' := (ab_wr (ab_wr h 102 (.inl (3, 200, .inl g))) 101 (.inl (0, 200, .inl (upd lvs (0 : Int32).toNatClampNeg (((lvs (0 : Int32).toNatClampNeg) &&& ((1 <<< ((Int32.ofNat w) &&& 31)) ^^^ (-1))) ||| (v <<< ((Int32.ofNat w) &&& 31)))))))) rfl rfl rfl ?_
      refine pa_s (pc' := 57) (lv' := (ab_s1 4 (.int 1) lv1)) (st' := []) (h' := (ab_wr (ab_wr h 102 (.inl (3, 200, .inl g))) 101 (.inl (0, 200, .inl (upd lvs (0 : Int32).toNatClampNeg (((lvs (0 : Int32).toNatClampNeg) &&& ((1 <<< ((Int32.ofNat w) &&& 31)) ^^^ (-1))) ||| (v <<< ((Int32.ofNat w) &&& 31)))))))) rfl rfl rfl ?_
      have f4 : ab_lk (ab_s1 4 (.int 1) lv1) 4 = some (.int 1) := mk_s1s
      have f0 := po_s1_other (v := .int 1) (i := 4) f0 (by decide) (fun q => absurd q.1 (by decide))
      have f1 := po_s1_other (v := .int 1) (i := 4) f1 (by decide) (fun q => absurd q.1 (by decide))
      have f2 := po_s1_other (v := .int 1) (i := 4) f2 (by decide) (fun q => absurd q.1 (by decide))
      have f3 := po_s1_other (v := .int 1) (i := 4) f3 (by decide) (fun q => absurd q.2 (show ¬ (1 : Nat) = 2 by decide))
      generalize ab_s1 4 (.int 1) lv1 = lv2 at f0 f1 f2 f3 f4 ⊢
      exact K.1 _ lv2 _ _ ⟨_, g, m2, hG.st hW hw hv _, (hF.wr (by decide) _).wr (by decide) _⟩ f0 f1 f3 f4
    · refine pa_s (pc' := 11) (lv' := lv) (st' := [.ref 82]) (h' := h) rfl rfl (ig_ald f0) ?_
      refine pa_get (ci := 10) (k := 38) rfl m.1 hq.2.2.2.2.2.2 ?_
      refine pa_s (pc' := 15) (lv' := lv) (st' := [.int a3, .ref 102]) (h' := h) rfl rfl (po_ild (nL := 0) f3) ?_
      refine pa_s (pc' := 16) (lv' := lv) (st' := [.int 0, .int a3, .ref 102]) (h' := h) rfl rfl rfl ?_
      refine px_bas rfl m.2.2.2.2.2 (by decide) (fun g => ?_)
      refine pa_s (pc' := 20) (lv' := (ab_s1 3 (.int (a3 + Int32.ofInt 1)) lv)) (st' := []) (h' := (ab_wr h 102 (.inl (3, 200, .inl g)))) rfl rfl (px_inc (by decide) f3) ?_
      have f3 : ab_lk (ab_s1 3 (.int (a3 + Int32.ofInt 1)) lv) 3 = some (.int (a3 + Int32.ofInt 1)) := mk_s1s
      have f0 := po_s1_other (v := .int (a3 + Int32.ofInt 1)) (i := 3) f0 (by decide) (fun q => absurd q.1 (by decide))
      have f1 := po_s1_other (v := .int (a3 + Int32.ofInt 1)) (i := 3) f1 (by decide) (fun q => absurd q.1 (by decide))
      have f2 := po_s1_other (v := .int (a3 + Int32.ofInt 1)) (i := 3) f2 (by decide) (fun q => absurd q.2 (show ¬ (1 : Nat) = 2 by decide))
      generalize ab_s1 3 (.int (a3 + Int32.ofInt 1)) lv = lv1 at f0 f1 f2 f3 ⊢
      refine pa_goto (off := -18) (tgt := 2) rfl rfl ?_
      exact ih _ lv1 _ ⟨lvs, g, m.w102 g, hG, hF.wr (by decide) _⟩ f0 f1 f2 f3
theorem ll_run (hq : ll_Q ws EV ST) (hW : W ≤ 6) (hw : w < W) (hva : ∀ j, j < 16 → va j = 0 ∨ va j = 1) (hv : v = 0 ∨ v = 1) (S : ll_S h0 ws wi nx va W ST h0) (N : Nat) : ab_pa N d ab_M_X10_layLevels 0 [(0, .ref 82), (1, .int (Int32.ofNat w)), (2, .int v)] [] h0 (fun r h' => (∃ x : Int32, r = some (.int x)) ∧ ll_S h0 ws wi nx va W ST h') := by
  have f0 : ab_lk [(0, Value.ref 82), (1, .int (Int32.ofNat w)), (2, .int v)] 0 = some (.ref 82) := rfl
  have f1 : ab_lk [(0, Value.ref 82), (1, .int (Int32.ofNat w)), (2, .int v)] 1 = some (.int (Int32.ofNat w)) := rfl
  have f2 : ab_lk [(0, Value.ref 82), (1, .int (Int32.ofNat w)), (2, .int v)] 2 = some (.int v) := rfl
  generalize [(0, Value.ref 82), (1, .int (Int32.ofNat w)), (2, .int v)] = lv at f0 f1 f2 ⊢
  refine pa_s (pc' := 1) (lv' := lv) (st' := [.int 0]) (h' := h0) rfl rfl rfl ?_
  refine pa_s (pc' := 2) (lv' := (ab_s1 3 (.int 0) lv)) (st' := []) (h' := h0) rfl rfl rfl ?_
  have f3 : ab_lk (ab_s1 3 (.int 0) lv) 3 = some (.int 0) := mk_s1s
  have f0 := po_s1_other (v := .int 0) (i := 3) f0 (by decide) (fun q => absurd q.1 (by decide))
  have f1 := po_s1_other (v := .int 0) (i := 3) f1 (by decide) (fun q => absurd q.1 (by decide))
  have f2 := po_s1_other (v := .int 0) (i := 3) f2 (by decide) (fun q => absurd q.2 (show ¬ (1 : Nat) = 2 by decide))
  generalize ab_s1 3 (.int 0) lv = lv1 at f0 f1 f2 f3 ⊢
  exact ll_2 hq hW hw hva hv (fun x _ q => ⟨⟨x, rfl⟩, q⟩) N h0 lv1 _ S f0 f1 f2 f3
end LL4
