/-! ===== layLevels: the levels stay below 2^wires ===== -/
section PX
variable {N d : Nat} {M : ab_M} {pc : Nat} {lv : ab_L} {st : List Value} {h : ab_H} {Q : Option Value → ab_H → Prop} {it : ab_I}
theorem pa_none (h1 : ab_at M.2.2.2.2.2 pc = some it) (h2 : ab_kd it = 0) (h3 : ab_sp M.2.2.1 it pc lv st h = none) : ab_pa N d M pc lv st h Q := fun n hn r g hx => by
  cases n with
  | zero => cases hx
  | succ n =>
    unfold ab_ex at hx
    simp only [h1, h2, h3] at hx
    cases hx
theorem px_ial {a n : Nat} {f : Nat → Int32} {i : Int32} (h1 : ab_at M.2.2.2.2.2 pc = some (ab_r .iaload 1)) (hr : ab_rd h a = some (.inl (0, n, .inl f))) (kk : ab_in i n = true → ab_pa N d M (pc + 1) lv (.int (f i.toNatClampNeg) :: st) h Q) : ab_pa N d M pc lv (.int i :: .ref a :: st) h Q := by
  by_cases hi : ab_in i n = true
  · exact pa_ial h1 hr hi rfl (kk hi)
  · refine pa_none h1 rfl ?_
    show ab_ial pc lv (.int i :: .ref a :: st) h = none
    unfold ab_ial
    simp only [hr]
    rw [if_neg hi]
theorem px_bal {a n : Nat} {f : Nat → Int32} {i : Int32} (h1 : ab_at M.2.2.2.2.2 pc = some (ab_r .baload 1)) (hr : ab_rd h a = some (.inl (3, n, .inl f))) (kk : ab_in i n = true → ab_pa N d M (pc + 1) lv (.int (f i.toNatClampNeg) :: st) h Q) : ab_pa N d M pc lv (.int i :: .ref a :: st) h Q := by
  by_cases hi : ab_in i n = true
  · refine pa_s h1 rfl ?_ (kk hi)
    show ab_bal pc lv (.int i :: .ref a :: st) h = _
    unfold ab_bal
    simp only [hr]
    rw [if_pos hi]
  · refine pa_none h1 rfl ?_
    show ab_bal pc lv (.int i :: .ref a :: st) h = none
    unfold ab_bal
    simp only [hr]
    rw [if_neg hi]
theorem px_ias {a n : Nat} {f : Nat → Int32} {i x : Int32} (h1 : ab_at M.2.2.2.2.2 pc = some (ab_r .iastore 1)) (hr : ab_rd h a = some (.inl (0, n, .inl f))) (ha : a ≠ 0) (kk : ab_in i n = true → ab_pa N d M (pc + 1) lv st (ab_wr h a (.inl (0, n, .inl (upd f i.toNatClampNeg x)))) Q) : ab_pa N d M pc lv (.int x :: .int i :: .ref a :: st) h Q := by
  by_cases hi : ab_in i n = true
  · exact pa_ias h1 hr hi ha (kk hi)
  · refine pa_none h1 rfl ?_
    show ab_ias pc lv (.int x :: .int i :: .ref a :: st) h = none
    unfold ab_ias
    simp only [hr]
    rw [if_neg (fun z => hi z.1)]
theorem px_bas {a n : Nat} {f : Nat → Int32} {i x : Int32} (h1 : ab_at M.2.2.2.2.2 pc = some (ab_r .bastore 1)) (hr : ab_rd h a = some (.inl (3, n, .inl f))) (ha : a ≠ 0) (kk : ∀ g : Nat → Int32, ab_pa N d M (pc + 1) lv st (ab_wr h a (.inl (3, n, .inl g))) Q) : ab_pa N d M pc lv (.int x :: .int i :: .ref a :: st) h Q := by
  by_cases hi : ab_in i n = true
  · refine pa_s h1 rfl ?_ (kk (upd f i.toNatClampNeg (vp_nar .boolean x)))
    show ab_bas pc lv (.int x :: .int i :: .ref a :: st) h = _
    unfold ab_bas
    simp only [hr]
    rw [if_pos ⟨hi, ha⟩]
  · refine pa_none h1 rfl ?_
    show ab_bas pc lv (.int x :: .int i :: .ref a :: st) h = none
    unfold ab_bas
    simp only [hr]
    rw [if_neg (fun z => hi z.1)]
theorem px_inc {nL i pc : Nat} {k : Int} {lv : ab_L} {st : List Value} {h : ab_H} {x : Int32} (hL : i < nL) (hx : ab_lk lv i = some (.int x)) : ab_inc nL i k pc lv st h = some (pc + 3, ab_s1 i (.int (x + Int32.ofInt k)) lv, st, h) := by
  unfold ab_inc
  rw [hx]
  show (if i < nL then some (pc + 3, ab_s1 i (.int (x + Int32.ofInt k)) lv, st, h) else none) = _
  rw [if_pos hL]
end PX
def ll_M (h : ab_H) (ws : List Value) (wi nx lvs va fl : Nat → Int32) : Prop := ab_rd h 82 = some (.inr (10, ws)) ∧ ab_rd h 85 = some (.inl (0, 16, .inl wi)) ∧ ab_rd h 100 = some (.inl (0, 3200, .inl nx)) ∧ ab_rd h 101 = some (.inl (0, 200, .inl lvs)) ∧ ab_rd h 86 = some (.inl (0, 16, .inl va)) ∧ ab_rd h 102 = some (.inl (3, 200, .inl fl))
def ll_Q (ws : List Value) (EV ST : Nat) : Prop := ws[3]? = some (.int (Int32.ofNat EV)) ∧ ws[4]? = some (.ref 85) ∧ ws[35]? = some (.ref 100) ∧ ws[36]? = some (.ref 101) ∧ ws[32]? = some (.int (Int32.ofNat ST)) ∧ ws[5]? = some (.ref 86) ∧ ws[38]? = some (.ref 102)
theorem ll_M.w101 {h : ab_H} {ws : List Value} {wi nx lvs va fl : Nat → Int32} (m : ll_M h ws wi nx lvs va fl) (f : Nat → Int32) : ll_M (ab_wr h 101 (.inl (0, 200, .inl f))) ws wi nx f va fl := ⟨(ab_rd_other (by decide)).trans m.1, (ab_rd_other (by decide)).trans m.2.1, (ab_rd_other (by decide)).trans m.2.2.1, ab_rd_self (ab_rd_of m.2.2.2.1).1, (ab_rd_other (by decide)).trans m.2.2.2.2.1, (ab_rd_other (by decide)).trans m.2.2.2.2.2⟩
theorem ll_M.w102 {h : ab_H} {ws : List Value} {wi nx lvs va fl : Nat → Int32} (m : ll_M h ws wi nx lvs va fl) (f : Nat → Int32) : ll_M (ab_wr h 102 (.inl (3, 200, .inl f))) ws wi nx lvs va f := ⟨(ab_rd_other (by decide)).trans m.1, (ab_rd_other (by decide)).trans m.2.1, (ab_rd_other (by decide)).trans m.2.2.1, (ab_rd_other (by decide)).trans m.2.2.2.1, (ab_rd_other (by decide)).trans m.2.2.2.2.1, ab_rd_self (ab_rd_of m.2.2.2.2.2).1⟩
/-- a level below 2^W -/
def ll_g (W : Nat) (x : Int32) : Prop := ∃ k, k < 2 ^ W ∧ x = Int32.ofNat k
def ll_G (W ST : Nat) (lvs : Nat → Int32) : Prop := ∀ s, s < ST → ll_g W (lvs s)
theorem ll_put {W w : Nat} {x v : Int32} (hW : W ≤ 6) (hw : w < W) (hx : ll_g W x) (hv : v = 0 ∨ v = 1) : ll_g W ((x &&& ((1 <<< (Int32.ofNat w &&& 31)) ^^^ (-1))) ||| (v <<< (Int32.ofNat w &&& 31))) := by
  obtain ⟨k, hk, rfl⟩ := hx
  have : ((List.range 7).all fun W => (List.range W).all fun w => (List.range (2 ^ W)).all fun k => (List.range 2).all fun v => (List.range (2 ^ W)).any fun y => decide ((Int32.ofNat k &&& ((1 <<< (Int32.ofNat w &&& 31)) ^^^ (-1))) ||| (Int32.ofNat v <<< (Int32.ofNat w &&& 31)) = Int32.ofNat y)) = true := by decide +kernel
  have q : ∀ v, v < 2 → ll_g W ((Int32.ofNat k &&& ((1 <<< (Int32.ofNat w &&& 31)) ^^^ (-1))) ||| (Int32.ofNat v <<< (Int32.ofNat w &&& 31))) := fun v hv => by
    have := List.all_eq_true.mp (List.all_eq_true.mp (List.all_eq_true.mp (List.all_eq_true.mp this W (List.mem_range.mpr (by omega))) w (List.mem_range.mpr hw)) k (List.mem_range.mpr hk)) v (List.mem_range.mpr hv)
    obtain ⟨y, y1, y2⟩ := List.any_eq_true.mp this
    exact ⟨y, List.mem_range.mp y1, of_decide_eq_true y2⟩
  rcases hv with rfl | rfl
  · exact q 0 (by decide)
  · exact q 1 (by decide)
theorem ll_G.st {W ST w : Nat} {lvs : Nat → Int32} (g : ll_G W ST lvs) (hW : W ≤ 6) (hw : w < W) {v : Int32} (hv : v = 0 ∨ v = 1) (j : Nat) : ll_G W ST (upd lvs j ((lvs j &&& ((1 <<< (Int32.ofNat w &&& 31)) ^^^ (-1))) ||| (v <<< (Int32.ofNat w &&& 31)))) := fun s hs => by
  unfold upd
  split
  · rename_i e
    rw [← e]
    exact ll_put hW hw (g s hs) hv
  · exact g s hs
theorem ll_in {i : Int32} {n : Nat} (h : ab_in i n = true) : i.toNatClampNeg < n := by
  unfold ab_in at h
  rw [Bool.not_eq_true', Bool.or_eq_false_iff] at h
  have := of_decide_eq_false h.2
  omega
theorem ll_and1 (x : Int32) : x &&& 1 = 0 ∨ x &&& 1 = 1 := by
  have : ∀ b : BitVec 32, b &&& 1#32 = 0#32 ∨ b &&& 1#32 = 1#32 := by
    intro b
    cases e : b.getLsbD 0 with
    | false => left; apply BitVec.eq_of_getLsbD_eq; intro i hi; rw [BitVec.getLsbD_and, BitVec.getLsbD_one]; cases i with
      | zero => rw [e]; simp
      | succ i => simp
    | true => right; apply BitVec.eq_of_getLsbD_eq; intro i hi; rw [BitVec.getLsbD_and, BitVec.getLsbD_one]; cases i with
      | zero => rw [e]; simp
      | succ i => simp
  rcases this x.toBitVec with h | h
  · left; apply Int32.toBitVec_inj.mp; rw [Int32.toBitVec_and]; exact h
  · right; apply Int32.toBitVec_inj.mp; rw [Int32.toBitVec_and]; exact h
