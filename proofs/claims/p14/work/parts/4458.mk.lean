section LL
variable {N d : Nat} {h0 : ab_H} {ws : List Value} {wi nx va : Nat → Int32} {EV ST W w : Nat} {Q : Option Value → ab_H → Prop}
theorem px_ret {M : ab_M} {pc : Nat} {lv : ab_L} {st : List Value} {h : ab_H} {it : ab_I} {x : Int32} (h1 : ab_at M.2.2.2.2.2 pc = some it) (h2 : ab_kd it = 1) (h3 : ∀ q, ab_rt M it st h = some q → q = (some (.int x), h)) (k : Q (some (.int x)) h) : ab_pa N d M pc lv st h Q := fun n hn r g hx => by
  cases n with
  | zero => cases hx
  | succ n =>
    unfold ab_ex at hx
    simp only [h1, h2] at hx
    have e := h3 _ hx
    cases e
    exact k
def ll_F (h0 h : ab_H) : Prop := h.1 = h0.1 ∧ h.2.1 = h0.2.1 ∧ ∀ a, a ≠ 101 → a ≠ 102 → h.2.2 a = h0.2.2 a
theorem ll_F.wr {h0 h : ab_H} (q : ll_F h0 h) {a : Nat} (ha : a = 101 ∨ a = 102) (e : ab_E) : ll_F h0 (ab_wr h a e) := ⟨q.1, q.2.1, fun b h1 h2 => (va_up_ne h.2.2 e (by omega)).trans (q.2.2 b h1 h2)⟩
/-- a state of the walk -/
def ll_S (h0 : ab_H) (ws : List Value) (wi nx va : Nat → Int32) (W ST : Nat) (h : ab_H) : Prop := ∃ lvs fl : Nat → Int32, ll_M h ws wi nx lvs va fl ∧ ll_G W ST lvs ∧ ll_F h0 h
def ll_K (N d : Nat) (h0 : ab_H) (ws : List Value) (wi nx va : Nat → Int32) (W ST w : Nat) (Q : Option Value → ab_H → Prop) : Prop := (∀ (h : ab_H) (lv : ab_L) (a3 a4 : Int32), ll_S h0 ws wi nx va W ST h → ab_lk lv 0 = some (.ref 82) → ab_lk lv 1 = some (.int (Int32.ofNat w)) → ab_lk lv 3 = some (.int a3) → ab_lk lv 4 = some (.int a4) → ab_pa N d ab_M_X10_layLevels 57 lv [] h Q) ∧ (∀ (h : ab_H) (lv : ab_L) (a3 a4 a5 : Int32), ll_S h0 ws wi nx va W ST h → ab_lk lv 0 = some (.ref 82) → ab_lk lv 1 = some (.int (Int32.ofNat w)) → ab_lk lv 3 = some (.int a3) → ab_lk lv 4 = some (.int a4) → ab_lk lv 5 = some (.int a5) → ab_pa N d ab_M_X10_layLevels 68 lv [] h Q) ∧ (∀ (h : ab_H) (lv : ab_L) (a3 a4 a5 a6 : Int32), ll_S h0 ws wi nx va W ST h → ab_lk lv 0 = some (.ref 82) → ab_lk lv 1 = some (.int (Int32.ofNat w)) → ab_lk lv 3 = some (.int a3) → ab_lk lv 4 = some (.int a4) → ab_lk lv 5 = some (.int a5) → ab_lk lv 6 = some (.int a6) → ab_pa N d ab_M_X10_layLevels 80 lv [] h Q)
theorem ll_267 (K : ll_K N d h0 ws wi nx va W ST w Q) {h : ab_H} {lv : ab_L} {a3 a4 a5 a6 : Int32} (S : ll_S h0 ws wi nx va W ST h) (f0 : ab_lk lv 0 = some (.ref 82)) (f1 : ab_lk lv 1 = some (.int (Int32.ofNat w))) (f3 : ab_lk lv 3 = some (.int a3)) (f4 : ab_lk lv 4 = some (.int a4)) (f5 : ab_lk lv 5 = some (.int a5)) (f6 : ab_lk lv 6 = some (.int a6)) : ab_pa N d ab_M_X10_layLevels 267 lv [] h Q := by
  refine pa_s (pc' := 270) (lv' := (ab_s1 6 (.int (a6 + Int32.ofInt 1)) lv)) (st' := []) (h' := h) rfl rfl (px_inc (by decide) f6) ?_
  have f6 : ab_lk (ab_s1 6 (.int (a6 + Int32.ofInt 1)) lv) 6 = some (.int (a6 + Int32.ofInt 1)) := mk_s1s
  have f0 := po_s1_other (v := .int (a6 + Int32.ofInt 1)) (i := 6) f0 (by decide) (fun q => absurd q.1 (by decide))
  have f1 := po_s1_other (v := .int (a6 + Int32.ofInt 1)) (i := 6) f1 (by decide) (fun q => absurd q.1 (by decide))
  have f3 := po_s1_other (v := .int (a6 + Int32.ofInt 1)) (i := 6) f3 (by decide) (fun q => absurd q.1 (by decide))
  have f4 := po_s1_other (v := .int (a6 + Int32.ofInt 1)) (i := 6) f4 (by decide) (fun q => absurd q.1 (by decide))
  have f5 := po_s1_other (v := .int (a6 + Int32.ofInt 1)) (i := 6) f5 (by decide) (fun q => absurd q.2 (show ¬ (1 : Nat) = 2 by decide))
  generalize ab_s1 6 (.int (a6 + Int32.ofInt 1)) lv = lv1 at f0 f1 f3 f4 f5 f6 ⊢
  refine pa_goto (off := -190) (tgt := 80) rfl rfl ?_
  exact K.2.2 h lv1 _ _ _ _ S f0 f1 f3 f4 f5 f6
theorem ll_192 (K : ll_K N d h0 ws wi nx va W ST w Q) (hq : ll_Q ws EV ST) (hW : W ≤ 6) (hw : w < W) {h : ab_H} {lv : ab_L} {a3 a4 a5 a6 a7 a9 : Int32} (h9 : a9 = 0 ∨ a9 = 1) (S : ll_S h0 ws wi nx va W ST h) (f0 : ab_lk lv 0 = some (.ref 82)) (f1 : ab_lk lv 1 = some (.int (Int32.ofNat w))) (f3 : ab_lk lv 3 = some (.int a3)) (f4 : ab_lk lv 4 = some (.int a4)) (f5 : ab_lk lv 5 = some (.int a5)) (f6 : ab_lk lv 6 = some (.int a6)) (f7 : ab_lk lv 7 = some (.int a7)) (f9 : ab_lk lv 9 = some (.int a9)) : ab_pa N d ab_M_X10_layLevels 192 lv [] h Q := by
  have S0 := S
  obtain ⟨lvs, fl, m, hG, hF⟩ := S
  refine pa_s (pc' := 193) (lv' := lv) (st' := [.ref 82]) (h' := h) rfl rfl (ig_ald f0) ?_
  refine pa_get (ci := 10) (k := 38) rfl m.1 hq.2.2.2.2.2.2 ?_
  refine pa_s (pc' := 198) (lv' := lv) (st' := [.int a7, .ref 102]) (h' := h) rfl rfl (po_ild (nL := 0) f7) ?_
  refine px_bal rfl m.2.2.2.2.2 (fun hi198 => ?_)
  generalize fl (a7).toNatClampNeg = y1
  refine pa_if (c := .eq) (off := 32) (tgt := 231) rfl rfl (fun _ => ?_) (fun _ => ?_)
  · refine pa_s (pc' := 232) (lv' := lv) (st' := [.ref 82]) (h' := h) rfl rfl (ig_ald f0) ?_
    refine pa_get (ci := 10) (k := 36) rfl m.1 hq.2.2.2.1 ?_
    refine pa_s (pc' := 237) (lv' := lv) (st' := [.int a7, .ref 101]) (h' := h) rfl rfl (po_ild (nL := 0) f7) ?_
    refine pa_s (pc' := 238) (lv' := lv) (st' := [.ref 82, .int a7, .ref 101]) (h' := h) rfl rfl (ig_ald f0) ?_
    refine pa_get (ci := 10) (k := 36) rfl m.1 hq.2.2.2.1 ?_
    refine pa_s (pc' := 243) (lv' := lv) (st' := [.int a7, .ref 101, .int a7, .ref 101]) (h' := h) rfl rfl (po_ild (nL := 0) f7) ?_
    refine px_ial rfl m.2.2.2.1 (fun hi243 => ?_)
    refine pa_s (pc' := 245) (lv' := lv) (st' := [.int 1, .int (lvs (a7).toNatClampNeg), .int a7, .ref 101]) (h' := h) rfl rfl rfl ?_
    refine pa_s (pc' := 246) (lv' := lv) (st' := [.int (Int32.ofNat w), .int 1, .int (lvs (a7).toNatClampNeg), .int a7, .ref 101]) (h' := h) rfl rfl (po_ild (nL := 0) f1) ?_
    refine pa_s (pc' := 247) (lv' := lv) (st' := [.int (1 <<< ((Int32.ofNat w) &&& 31)), .int (lvs (a7).toNatClampNeg), .int a7, .ref 101]) (h' := h) rfl rfl rfl ?_
    refine pa_s (pc' := 248) (lv' := lv) (st' := [.int (-1), .int (1 <<< ((Int32.ofNat w) &&& 31)), .int (lvs (a7).toNatClampNeg), .int a7, .ref 101]) (h' := h) rfl rfl rfl ?_
    refine pa_s (pc' := 249) (lv' := lv) (st' := [.int ((1 <<< ((Int32.ofNat w) &&& 31)) ^^^ (-1)), .int (lvs (a7).toNatClampNeg), .int a7, .ref 101]) (h' := h) rfl rfl rfl ?_
    refine pa_s (pc' := 250) (lv' := lv) (st' := [.int ((lvs (a7).toNatClampNeg) &&& ((1 <<< ((Int32.ofNat w) &&& 31)) ^^^ (-1))), .int a7, .ref 101]) (h' := h) rfl rfl rfl ?_
    refine pa_s (pc' := 252) (lv' := lv) (st' := [.int a9, .int ((lvs (a7).toNatClampNeg) &&& ((1 <<< ((Int32.ofNat w) &&& 31)) ^^^ (-1))), .int a7, .ref 101]) (h' := h) rfl rfl (po_ild (nL := 0) f9) ?_
    refine pa_s (pc' := 253) (lv' := lv) (st' := [.int (Int32.ofNat w), .int a9, .int ((lvs (a7).toNatClampNeg) &&& ((1 <<< ((Int32.ofNat w) &&& 31)) ^^^ (-1))), .int a7, .ref 101]) (h' := h) rfl rfl (po_ild (nL := 0) f1) ?_
    refine pa_s (pc' := 254) (lv' := lv) (st' := [.int (a9 <<< ((Int32.ofNat w) &&& 31)), .int ((lvs (a7).toNatClampNeg) &&& ((1 <<< ((Int32.ofNat w) &&& 31)) ^^^ (-1))), .int a7, .ref 101]) (h' := h) rfl rfl rfl ?_
    refine pa_s (pc' := 255) (lv' := lv) (st' := [.int (((lvs (a7).toNatClampNeg) &&& ((1 <<< ((Int32.ofNat w) &&& 31)) ^^^ (-1))) ||| (a9 <<< ((Int32.ofNat w) &&& 31))), .int a7, .ref 101]) (h' := h) rfl rfl rfl ?_
    refine px_ias rfl m.2.2.2.1 (by decide) (fun _ => ?_)
    have m1 := m.w101 (upd lvs (a7).toNatClampNeg (((lvs (a7).toNatClampNeg) &&& ((1 <<< ((Int32.ofNat w) &&& 31)) ^^^ (-1))) ||| (a9 <<< ((Int32.ofNat w) &&& 31))))
    refine pa_s (pc' := 257) (lv' := lv) (st' := [.ref 82]) (h' := (ab_wr h 101 (.inl (0, 200, .inl (upd lvs (a7).toNatClampNeg (((lvs (a7).toNatClampNeg) &&& ((1 <<< ((Int32.ofNat w) &&& 31)) ^^^ (-1))) ||| (a9 <<< ((Int32.ofNat w) &&& 31)))))))) rfl rfl (ig_ald f0) ?_
    refine pa_get (ci := 10) (k := 38) rfl m1.1 hq.2.2.2.2.2.2 ?_
    refine pa_s (pc' := 262) (lv' := lv) (st' := [.int a7, .ref 102]) (h' := (ab_wr h 101 (.inl (0, 200, .inl (upd lvs (a7).toNatClampNeg (((lvs (a7).toNatClampNeg) &&& ((1 <<< ((Int32.ofNat w) &&& 31)) ^^^ (-1))) ||| (a9 <<< ((Int32.ofNat w) &&& 31)))))))) rfl rfl (po_ild (nL := 0) f7) ?_
    refine pa_s (pc' := 263) (lv' := lv) (st' := [.int 1, .int a7, .ref 102]) (h' := (ab_wr h 101 (.inl (0, 200, .inl (upd lvs (a7).toNatClampNeg (((lvs (a7).toNatClampNeg) &&& ((1 <<< ((Int32.ofNat w) &&& 31)) ^^^ (-1))) ||| (a9 <<< ((Int32.ofNat w) &&& 31)))))))) rfl rfl rfl ?_
    refine px_bas rfl m1.2.2.2.2.2 (by decide) (fun g => ?_)
    refine pa_s (pc' := 265) (lv' := lv) (st' := [.int 1]) (h' := (ab_wr (ab_wr h 101 (.inl (0, 200, .inl (upd lvs (a7).toNatClampNeg (((lvs (a7).toNatClampNeg) &&& ((1 <<< ((Int32.ofNat w) &&& 31)) ^^^ (-1))) ||| (a9 <<< ((Int32.ofNat w) &&& 31))))))) 102 (.inl (3, 200, .inl g)))) rfl rfl rfl ?_
    refine pa_s (pc' := 267) (lv' := (ab_s1 4 (.int 1) lv)) (st' := []) (h' := (ab_wr (ab_wr h 101 (.inl (0, 200, .inl (upd lvs (a7).toNatClampNeg (((lvs (a7).toNatClampNeg) &&& ((1 <<< ((Int32.ofNat w) &&& 31)) ^^^ (-1))) ||| (a9 <<< ((Int32.ofNat w) &&& 31))))))) 102 (.inl (3, 200, .inl g)))) rfl rfl rfl ?_
    have f4 : ab_lk (ab_s1 4 (.int 1) lv) 4 = some (.int 1) := mk_s1s
    have f0 := po_s1_other (v := .int 1) (i := 4) f0 (by decide) (fun q => absurd q.1 (by decide))
    have f1 := po_s1_other (v := .int 1) (i := 4) f1 (by decide) (fun q => absurd q.1 (by decide))
    have f3 := po_s1_other (v := .int 1) (i := 4) f3 (by decide) (fun q => absurd q.2 (show ¬ (1 : Nat) = 2 by decide))
    have f5 := po_s1_other (v := .int 1) (i := 4) f5 (by decide) (fun q => absurd q.1 (by decide))
    have f6 := po_s1_other (v := .int 1) (i := 4) f6 (by decide) (fun q => absurd q.1 (by decide))
    have f7 := po_s1_other (v := .int 1) (i := 4) f7 (by decide) (fun q => absurd q.1 (by decide))
    have f9 := po_s1_other (v := .int 1) (i := 4) f9 (by decide) (fun q => absurd q.1 (by decide))
    generalize ab_s1 4 (.int 1) lv = lv1 at f0 f1 f3 f4 f5 f6 f7 f9 ⊢
    exact ll_267 K ⟨_, g, m1.w102 g, hG.st hW hw h9 _, (hF.wr (by decide) _).wr (by decide) _⟩ f0 f1 f3 f4 f5 f6
  have join : ∀ (x : Int32), ab_pa N d ab_M_X10_layLevels 227 lv [.int x] h Q := fun x => by
    refine pa_s (pc' := 228) (lv' := (ab_s1 3 (.int x) lv)) (st' := []) (h' := h) rfl rfl rfl ?_
    have f3 : ab_lk (ab_s1 3 (.int x) lv) 3 = some (.int x) := mk_s1s
    have f0 := po_s1_other (v := .int x) (i := 3) f0 (by decide) (fun q => absurd q.1 (by decide))
    have f1 := po_s1_other (v := .int x) (i := 3) f1 (by decide) (fun q => absurd q.1 (by decide))
    have f4 := po_s1_other (v := .int x) (i := 3) f4 (by decide) (fun q => absurd q.1 (by decide))
    have f5 := po_s1_other (v := .int x) (i := 3) f5 (by decide) (fun q => absurd q.1 (by decide))
    have f6 := po_s1_other (v := .int x) (i := 3) f6 (by decide) (fun q => absurd q.1 (by decide))
    have f7 := po_s1_other (v := .int x) (i := 3) f7 (by decide) (fun q => absurd q.1 (by decide))
    have f9 := po_s1_other (v := .int x) (i := 3) f9 (by decide) (fun q => absurd q.1 (by decide))
    generalize ab_s1 3 (.int x) lv = lv1 at f0 f1 f3 f4 f5 f6 f7 f9 ⊢
    refine pa_goto (off := 39) (tgt := 267) rfl rfl ?_
    exact ll_267 K S0 f0 f1 f3 f4 f5 f6
  have zero : ab_pa N d ab_M_X10_layLevels 226 lv [] h Q := by
    refine pa_s (pc' := 227) (lv' := lv) (st' := [.int 0]) (h' := h) rfl rfl rfl ?_
    exact join 0
  refine pa_s (pc' := 203) (lv' := lv) (st' := [.int a3]) (h' := h) rfl rfl (po_ild (nL := 0) f3) ?_
  refine pa_if (c := .eq) (off := 23) (tgt := 226) rfl rfl (fun _ => zero) (fun _ => ?_)
  refine pa_s (pc' := 207) (lv' := lv) (st' := [.ref 82]) (h' := h) rfl rfl (ig_ald f0) ?_
  refine pa_get (ci := 10) (k := 36) rfl m.1 hq.2.2.2.1 ?_
  refine pa_s (pc' := 212) (lv' := lv) (st' := [.int a7, .ref 101]) (h' := h) rfl rfl (po_ild (nL := 0) f7) ?_
  refine px_ial rfl m.2.2.2.1 (fun hi212 => ?_)
  generalize lvs (a7).toNatClampNeg = y2
  refine pa_s (pc' := 214) (lv' := lv) (st' := [.int (Int32.ofNat w), .int y2]) (h' := h) rfl rfl (po_ild (nL := 0) f1) ?_
  refine pa_s (pc' := 215) (lv' := lv) (st' := [.int (y2 >>> ((Int32.ofNat w) &&& 31))]) (h' := h) rfl rfl rfl ?_
  refine pa_s (pc' := 216) (lv' := lv) (st' := [.int 1, .int (y2 >>> ((Int32.ofNat w) &&& 31))]) (h' := h) rfl rfl rfl ?_
  refine pa_s (pc' := 217) (lv' := lv) (st' := [.int ((y2 >>> ((Int32.ofNat w) &&& 31)) &&& 1)]) (h' := h) rfl rfl rfl ?_
  refine pa_s (pc' := 219) (lv' := lv) (st' := [.int a9, .int ((y2 >>> ((Int32.ofNat w) &&& 31)) &&& 1)]) (h' := h) rfl rfl (po_ild (nL := 0) f9) ?_
  refine pa_ic (c := .ne) (off := 7) (tgt := 226) rfl rfl (fun _ => zero) (fun _ => ?_)
  refine pa_s (pc' := 223) (lv' := lv) (st' := [.int 1]) (h' := h) rfl rfl rfl ?_
  refine pa_goto (off := 4) (tgt := 227) rfl rfl ?_
  exact join 1
theorem ll_157 (K : ll_K N d h0 ws wi nx va W ST w Q) (hq : ll_Q ws EV ST) (hW : W ≤ 6) (hw : w < W) {h : ab_H} {lv : ab_L} {a3 a4 a5 a6 a7 a8 a9 : Int32} (h9 : a9 = 0 ∨ a9 = 1) (S : ll_S h0 ws wi nx va W ST h) (f0 : ab_lk lv 0 = some (.ref 82)) (f1 : ab_lk lv 1 = some (.int (Int32.ofNat w))) (f3 : ab_lk lv 3 = some (.int a3)) (f4 : ab_lk lv 4 = some (.int a4)) (f5 : ab_lk lv 5 = some (.int a5)) (f6 : ab_lk lv 6 = some (.int a6)) (f7 : ab_lk lv 7 = some (.int a7)) (f8 : ab_lk lv 8 = some (.int a8)) : ab_pa N d ab_M_X10_layLevels 157 lv [.int a9] h Q := by
  have S0 := S
  obtain ⟨lvs, fl, m, hG, hF⟩ := S
  refine pa_s (pc' := 159) (lv' := (ab_s1 9 (.int a9) lv)) (st' := []) (h' := h) rfl rfl rfl ?_
  have f9 : ab_lk (ab_s1 9 (.int a9) lv) 9 = some (.int a9) := mk_s1s
  have f0 := po_s1_other (v := .int a9) (i := 9) f0 (by decide) (fun q => absurd q.1 (by decide))
  have f1 := po_s1_other (v := .int a9) (i := 9) f1 (by decide) (fun q => absurd q.1 (by decide))
  have f3 := po_s1_other (v := .int a9) (i := 9) f3 (by decide) (fun q => absurd q.1 (by decide))
  have f4 := po_s1_other (v := .int a9) (i := 9) f4 (by decide) (fun q => absurd q.1 (by decide))
  have f5 := po_s1_other (v := .int a9) (i := 9) f5 (by decide) (fun q => absurd q.1 (by decide))
  have f6 := po_s1_other (v := .int a9) (i := 9) f6 (by decide) (fun q => absurd q.1 (by decide))
  have f7 := po_s1_other (v := .int a9) (i := 9) f7 (by decide) (fun q => absurd q.1 (by decide))
  have f8 := po_s1_other (v := .int a9) (i := 9) f8 (by decide) (fun q => absurd q.2 (show ¬ (1 : Nat) = 2 by decide))
  generalize ab_s1 9 (.int a9) lv = lv1 at f0 f1 f3 f4 f5 f6 f7 f8 f9 ⊢
  have join : ∀ (x : Int32), ab_pa N d ab_M_X10_layLevels 191 lv1 [.int x] h Q := fun x => by
    refine pa_s (pc' := 192) (lv' := (ab_s1 3 (.int x) lv1)) (st' := []) (h' := h) rfl rfl rfl ?_
    have f3 : ab_lk (ab_s1 3 (.int x) lv1) 3 = some (.int x) := mk_s1s
    have f0 := po_s1_other (v := .int x) (i := 3) f0 (by decide) (fun q => absurd q.1 (by decide))
    have f1 := po_s1_other (v := .int x) (i := 3) f1 (by decide) (fun q => absurd q.1 (by decide))
    have f4 := po_s1_other (v := .int x) (i := 3) f4 (by decide) (fun q => absurd q.1 (by decide))
    have f5 := po_s1_other (v := .int x) (i := 3) f5 (by decide) (fun q => absurd q.1 (by decide))
    have f6 := po_s1_other (v := .int x) (i := 3) f6 (by decide) (fun q => absurd q.1 (by decide))
    have f7 := po_s1_other (v := .int x) (i := 3) f7 (by decide) (fun q => absurd q.1 (by decide))
    have f8 := po_s1_other (v := .int x) (i := 3) f8 (by decide) (fun q => absurd q.1 (by decide))
    have f9 := po_s1_other (v := .int x) (i := 3) f9 (by decide) (fun q => absurd q.1 (by decide))
    generalize ab_s1 3 (.int x) lv1 = lv2 at f0 f1 f3 f4 f5 f6 f7 f8 f9 ⊢
    exact ll_192 K hq hW hw h9 S0 f0 f1 f3 f4 f5 f6 f7 f9
  have zero : ab_pa N d ab_M_X10_layLevels 190 lv1 [] h Q := by
    refine pa_s (pc' := 191) (lv' := lv1) (st' := [.int 0]) (h' := h) rfl rfl rfl ?_
    exact join 0
  have one : ab_pa N d ab_M_X10_layLevels 186 lv1 [] h Q := by
    refine pa_s (pc' := 187) (lv' := lv1) (st' := [.int 1]) (h' := h) rfl rfl rfl ?_
    refine pa_goto (off := 4) (tgt := 191) rfl rfl ?_
    exact join 1
  refine pa_s (pc' := 160) (lv' := lv1) (st' := [.int a3]) (h' := h) rfl rfl (po_ild (nL := 0) f3) ?_
  refine pa_if (c := .eq) (off := 30) (tgt := 190) rfl rfl (fun _ => zero) (fun _ => ?_)
  refine pa_s (pc' := 164) (lv' := lv1) (st' := [.ref 82]) (h' := h) rfl rfl (ig_ald f0) ?_
  refine pa_get (ci := 10) (k := 4) rfl m.1 hq.2.1 ?_
  refine pa_s (pc' := 169) (lv' := lv1) (st' := [.int a6, .ref 85]) (h' := h) rfl rfl (po_ild (nL := 0) f6) ?_
  refine px_ial rfl m.2.1 (fun hi169 => ?_)
  generalize wi (a6).toNatClampNeg = y1
  refine pa_s (pc' := 171) (lv' := lv1) (st' := [.int (Int32.ofNat w), .int y1]) (h' := h) rfl rfl (po_ild (nL := 0) f1) ?_
  refine pa_ic (c := .ne) (off := 15) (tgt := 186) rfl rfl (fun _ => one) (fun _ => ?_)
  refine pa_s (pc' := 176) (lv' := lv1) (st' := [.int a8]) (h' := h) rfl rfl (po_ild (nL := 0) f8) ?_
  refine pa_s (pc' := 177) (lv' := lv1) (st' := [.ref 82, .int a8]) (h' := h) rfl rfl (ig_ald f0) ?_
  refine pa_get (ci := 10) (k := 5) rfl m.1 hq.2.2.2.2.2.1 ?_
  refine pa_s (pc' := 182) (lv' := lv1) (st' := [.int a6, .ref 86, .int a8]) (h' := h) rfl rfl (po_ild (nL := 0) f6) ?_
  refine px_ial rfl m.2.2.2.2.1 (fun hi182 => ?_)
  generalize va (a6).toNatClampNeg = y2
  exact pa_ic (c := .eq) (off := 7) (tgt := 190) rfl rfl (fun _ => zero) (fun _ => one)
end LL
