/-! ===== rows of longs; the model's memory where covers are sought ===== -/
section MKR
variable {d : Nat} {M : ab_M} {pc : Nat} {lv : ab_L} {st : List Value} {h : ab_H} {Q : Option Value → ab_H → Prop}
theorem go_lal {a n : Nat} {f : Nat → Int64} {i : Int32} {v : Int64} (h1 : ab_at M.2.2.2.2.2 pc = some (ab_r .laload 1)) (hr : ab_rd h a = some (.inl (2, n, .inr (.inl f)))) (hi : ab_in i n = true) (hv : f i.toNatClampNeg = v) (kk : ab_go d M (pc + 1) lv (.long v :: st) h Q) : ab_go d M pc lv (.int i :: .ref a :: st) h Q := by
  refine go_s h1 rfl (show ab_lal2 pc lv (.int i :: .ref a :: st) h = _ from ?_) kk
  unfold ab_lal2 ab_lal
  simp only [hr, if_pos hi, hv]
theorem go_las {a n : Nat} {f : Nat → Int64} {i : Int32} {x : Int64} (h1 : ab_at M.2.2.2.2.2 pc = some (ab_r .lastore 1)) (hr : ab_rd h a = some (.inl (2, n, .inr (.inl f)))) (hi : ab_in i n = true) (ha : a ≠ 0) (kk : ab_go d M (pc + 1) lv st (ab_wr h a (.inl (2, n, .inr (.inl (vp_updL f i.toNatClampNeg x))))) Q) : ab_go d M pc lv (.long x :: .int i :: .ref a :: st) h Q := by
  refine go_s h1 rfl (show ab_las pc lv (.long x :: .int i :: .ref a :: st) h = _ from ?_) kk
  unfold ab_las
  simp only [hr]
  rw [if_pos ⟨hi, ha⟩]
end MKR
/-- the cells 82 (by its words), 104 .. 109 -/
def mm (h : ab_H) (ws : List Value) (co : Nat → Int64) (cl : Nat → Int32) (cv : Nat → Int64) (pt tr ll : Nat → Int32) : Prop := ab_rd h 82 = some (.inr (10, ws)) ∧ ab_rd h 104 = some (.inl (2, 729, .inr (.inl co))) ∧ ab_rd h 105 = some (.inl (0, 729, .inl cl)) ∧ ab_rd h 106 = some (.inl (2, 70, .inr (.inl cv))) ∧ ab_rd h 107 = some (.inl (0, 70, .inl pt)) ∧ ab_rd h 108 = some (.inl (0, 70, .inl tr)) ∧ ab_rd h 109 = some (.inl (0, 70, .inl ll))
/-- its fields, as far as they are looked at: how many cubes, what is asked -/
def mw (ws : List Value) (n : Nat) (on : Int64) : Prop := n ≤ 729 ∧ ws[47]? = some (.long on) ∧ ws[49]? = some (.int (Int32.ofNat n)) ∧ ws[51]? = some (.ref 104) ∧ ws[52]? = some (.ref 105) ∧ ws[53]? = some (.ref 106) ∧ ws[54]? = some (.ref 107) ∧ ws[55]? = some (.ref 108) ∧ ws[56]? = some (.ref 109)
section MM
variable {h : ab_H} {ws : List Value} {co cv : Nat → Int64} {cl pt tr ll : Nat → Int32}
theorem mm.w106 (m : mm h ws co cl cv pt tr ll) (f : Nat → Int64) : mm (ab_wr h 106 (.inl (2, 70, .inr (.inl f)))) ws co cl f pt tr ll := ⟨(ab_rd_other (by decide)).trans m.1, (ab_rd_other (by decide)).trans m.2.1, (ab_rd_other (by decide)).trans m.2.2.1, ab_rd_self (ab_rd_of m.2.2.2.1).1, (ab_rd_other (by decide)).trans m.2.2.2.2.1, (ab_rd_other (by decide)).trans m.2.2.2.2.2.1, (ab_rd_other (by decide)).trans m.2.2.2.2.2.2⟩
theorem mm.w107 (m : mm h ws co cl cv pt tr ll) (f : Nat → Int32) : mm (ab_wr h 107 (.inl (0, 70, .inl f))) ws co cl cv f tr ll := ⟨(ab_rd_other (by decide)).trans m.1, (ab_rd_other (by decide)).trans m.2.1, (ab_rd_other (by decide)).trans m.2.2.1, (ab_rd_other (by decide)).trans m.2.2.2.1, ab_rd_self (ab_rd_of m.2.2.2.2.1).1, (ab_rd_other (by decide)).trans m.2.2.2.2.2.1, (ab_rd_other (by decide)).trans m.2.2.2.2.2.2⟩
theorem mm.w108 (m : mm h ws co cl cv pt tr ll) (f : Nat → Int32) : mm (ab_wr h 108 (.inl (0, 70, .inl f))) ws co cl cv pt f ll := ⟨(ab_rd_other (by decide)).trans m.1, (ab_rd_other (by decide)).trans m.2.1, (ab_rd_other (by decide)).trans m.2.2.1, (ab_rd_other (by decide)).trans m.2.2.2.1, (ab_rd_other (by decide)).trans m.2.2.2.2.1, ab_rd_self (ab_rd_of m.2.2.2.2.2.1).1, (ab_rd_other (by decide)).trans m.2.2.2.2.2.2⟩
theorem mm.w109 (m : mm h ws co cl cv pt tr ll) (f : Nat → Int32) : mm (ab_wr h 109 (.inl (0, 70, .inl f))) ws co cl cv pt tr f := ⟨(ab_rd_other (by decide)).trans m.1, (ab_rd_other (by decide)).trans m.2.1, (ab_rd_other (by decide)).trans m.2.2.1, (ab_rd_other (by decide)).trans m.2.2.2.1, (ab_rd_other (by decide)).trans m.2.2.2.2.1, (ab_rd_other (by decide)).trans m.2.2.2.2.2.1, ab_rd_self (ab_rd_of m.2.2.2.2.2.2).1⟩
end MM
theorem mk_i {j : Nat} (h : j < 2147483648) : (Int32.ofNat j).toInt = j := Int32.toInt_ofNat_of_lt (by omega)
theorem mk_inc {j : Nat} (h : j < 2147483647) : Int32.ofNat j + Int32.ofInt 1 = Int32.ofNat (j + 1) := by
  refine Int32.toInt_inj.mp ?_
  rw [Int32.toInt_add, mk_i (by omega), show (Int32.ofInt 1).toInt = 1 from rfl, mk_i (by omega), sx_bm (by omega) (by omega)]
  omega
theorem mk_ix {j m : Nat} (h : j < m) (hm : m ≤ 100000) : ab_in (Int32.ofNat j) m = true := (sx_ab_in (by rw [mk_i (by omega)]; omega) (by rw [mk_i (by omega)]; omega)).1
theorem mk_cl {j : Nat} (h : j < 2147483648) : (Int32.ofNat j).toNatClampNeg = j := by
  show (Int32.ofNat j).toInt.toNat = j
  rw [mk_i h]
  rfl
/-- a bit of a long, as the code looks at it -/
theorem mk_shr (x : Int64) {v : Nat} (hv : v < 64) : mk_bt (x >>> ((Int32.ofNat v).toInt64 &&& 63)) 0 = mk_bt x v := by
  have key : ∀ v, v < 64 → (((Int32.ofNat v).toInt64 &&& 63).toBitVec.smod 64).toNat = v := by decide
  unfold mk_bt
  rw [Int64.toBitVec_shiftRight, show x.toBitVec.sshiftRight' (((Int32.ofNat v).toInt64 &&& 63).toBitVec.smod 64) = x.toBitVec.sshiftRight (((Int32.ofNat v).toInt64 &&& 63).toBitVec.smod 64).toNat from rfl, key v hv, BitVec.getLsbD_sshiftRight, if_pos (by omega)]
  simp
theorem mk_one (y : Int64) : (y &&& 1) = (if mk_bt y 0 = true then 1 else 0) := by
  apply Int64.toBitVec_inj.mp
  apply BitVec.eq_of_getLsbD_eq
  intro i hi
  rw [Int64.toBitVec_and, BitVec.getLsbD_and]
  have h1 : (1 : Int64).toBitVec.getLsbD i = decide (i = 0) := by
    show (1#64).getLsbD i = decide (i = 0)
    rw [BitVec.getLsbD_one]
    simp
  rw [h1]
  cases i with
  | zero =>
    unfold mk_bt
    cases hb : y.toBitVec.getLsbD 0 with
    | false => rw [if_neg (by decide)]; rfl
    | true => rw [if_pos rfl]; rfl
  | succ i =>
    rw [decide_eq_false (by omega), Bool.and_false]
    split
    · show false = (1#64).getLsbD (i + 1)
      rw [BitVec.getLsbD_one]
      simp
    · show false = (0#64).getLsbD (i + 1)
      rw [BitVec.getLsbD_zero]
theorem mk_bit (x : Int64) {v : Nat} (hv : v < 64) : (x >>> ((Int32.ofNat v).toInt64 &&& 63)) &&& 1 = (if mk_bt x v = true then 1 else 0) := by rw [mk_one, mk_shr x hv]
