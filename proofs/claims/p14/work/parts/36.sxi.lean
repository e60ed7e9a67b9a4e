/-! ===== the wider checker is sound: what the machine's ints do ===== -/
theorem sx_bm {z : Int} (h1 : -2147483648 ≤ z) (h2 : z ≤ 2147483647) : z.bmod (2 ^ 32) = z := Int.bmod_eq_of_le (by omega) (by omega)
theorem sx_bm64 {z : Int} (h1 : -9223372036854775808 ≤ z) (h2 : z ≤ 9223372036854775807) : z.bmod (2 ^ 64) = z := Int.bmod_eq_of_le (by omega) (by omega)
theorem sx_nn {w : Nat} {x : BitVec w} (h : 0 ≤ x.toInt) : x.toInt = x.toNat ∧ 2 * x.toNat < 2 ^ w := by
  have h1 := x.isLt
  by_cases hc : 2 * x.toNat < 2 ^ w
  · exact ⟨BitVec.toInt_eq_toNat_of_lt hc, hc⟩
  · rw [BitVec.toInt_eq_toNat_cond, if_neg hc] at h
    have : ((2 ^ w : Nat) : Int) = 2 ^ w := by simp
    omega
theorem sx_bvand {w : Nat} {x y : BitVec w} (h : 0 ≤ x.toInt) : 0 ≤ (x &&& y).toInt ∧ (x &&& y).toInt ≤ x.toInt := by
  obtain ⟨h1, h2⟩ := sx_nn h
  have h3 : (x &&& y).toNat ≤ x.toNat := by rw [BitVec.toNat_and]; exact Nat.and_le_left
  have h4 := BitVec.toInt_eq_toNat_of_lt (x := x &&& y) (by omega)
  omega
theorem sx_bvor {w : Nat} (hw : 0 < w) {x y : BitVec w} {k : Nat} (hx : 0 ≤ x.toInt) (hy : 0 ≤ y.toInt) (h1 : x.toInt < (2 ^ k : Nat)) (h2 : y.toInt < (2 ^ k : Nat)) : (0 ≤ (x ||| y).toInt ∧ (x ||| y).toInt < (2 ^ k : Nat)) ∧ 0 ≤ (x ^^^ y).toInt ∧ (x ^^^ y).toInt < (2 ^ k : Nat) := by
  obtain ⟨a1, a2⟩ := sx_nn hx
  obtain ⟨b1, b2⟩ := sx_nn hy
  obtain ⟨v, rfl⟩ : ∃ v, w = v + 1 := ⟨w - 1, by omega⟩
  rw [Nat.pow_succ] at a2 b2
  have c1 : (x ||| y).toNat < 2 ^ v := by rw [BitVec.toNat_or]; exact Nat.or_lt_two_pow (by omega) (by omega)
  have c2 : (x ^^^ y).toNat < 2 ^ v := by rw [BitVec.toNat_xor]; exact Nat.xor_lt_two_pow (by omega) (by omega)
  have d1 := BitVec.toInt_eq_toNat_of_lt (x := x ||| y) (by rw [Nat.pow_succ]; omega)
  have d2 := BitVec.toInt_eq_toNat_of_lt (x := x ^^^ y) (by rw [Nat.pow_succ]; omega)
  have e1 : (x ||| y).toNat < 2 ^ k := by rw [BitVec.toNat_or]; exact Nat.or_lt_two_pow (by omega) (by omega)
  have e2 : (x ^^^ y).toNat < 2 ^ k := by rw [BitVec.toNat_xor]; exact Nat.xor_lt_two_pow (by omega) (by omega)
  omega
theorem sx_pw_ok (n : Int) : ∃ k : Nat, sx_pw n = (2 ^ k : Nat) - 1 ∧ ∀ m : Int, m ≤ n → m < (2 ^ k : Nat) ∨ m ≤ 0 := by
  unfold sx_pw
  by_cases h : n ≤ 0
  · rw [if_pos h]
    exact ⟨0, by simp, fun m hm => Or.inr (by omega)⟩
  · rw [if_neg h]
    refine ⟨Nat.log2 n.toNat + 1, rfl, fun m hm => Or.inl ?_⟩
    have h1 : n.toNat < 2 ^ (Nat.log2 n.toNat + 1) := Nat.lt_log2_self
    omega
theorem sx_s5 : ∀ n : Nat, n < 32 → (((Int32.ofNat n) &&& 31).toBitVec.smod 32).toNat = n := by decide
theorem sx_u5 : ∀ n : Nat, n < 32 → (((Int32.ofNat n).toUInt32 &&& Int32.toUInt32 31).toBitVec % 32).toNat = n := by decide
theorem sx_sl (y : Int32) : ∃ n : Nat, n < 32 ∧ ((y &&& 31).toBitVec.smod 32).toNat = n ∧ (0 ≤ y.toInt → y.toInt ≤ 31 → (n : Int) = y.toInt) := by
  refine ⟨((y &&& 31).toBitVec.smod 32).toNat, ?_, rfl, fun h1 h2 => ?_⟩
  · have h0 : 0 ≤ ((y &&& 31).toBitVec).toInt := by
      have := sx_bvand (x := (31 : Int32).toBitVec) (y := y.toBitVec) (by decide)
      rw [Int32.toBitVec_and, BitVec.and_comm]
      exact this.1
    have h3 := sx_nn h0
    have h4 : ((y &&& 31).toBitVec).toNat ≤ 31 := by
      rw [Int32.toBitVec_and, BitVec.toNat_and]
      exact Nat.and_le_right
    have h5 : ((y &&& 31).toBitVec) = (Int32.ofNat ((y &&& 31).toBitVec).toNat).toBitVec := by
      apply BitVec.eq_of_toNat_eq
      show _ = ((y &&& 31).toBitVec).toNat % 2 ^ 32
      rw [Nat.mod_eq_of_lt (by omega)]
    have h6 : ∀ n : Nat, n < 32 → ((Int32.ofNat n).toBitVec.smod 32).toNat < 32 := by decide
    rw [h5]
    exact h6 _ (by omega)
  · have h3 : y = Int32.ofNat y.toInt.toNat := by
      refine Int32.toInt_inj.mp ?_
      rw [Int32.toInt_ofNat_of_lt (by omega)]
      omega
    have h4 := sx_s5 y.toInt.toNat (by omega)
    rw [← h3] at h4
    omega
theorem sx_ish {a y : Int32} (ha : 0 ≤ a.toInt) : 0 ≤ (a >>> (y &&& 31)).toInt ∧ (a >>> (y &&& 31)).toInt ≤ a.toInt := by
  obtain ⟨n, h1, h2, -⟩ := sx_sl y
  rw [pk_shr a (y &&& 31) n h2, Int.shiftRight_eq_div_pow]
  have hp : (0 : Int) < ((2 ^ n : Nat) : Int) := by
    have := Nat.two_pow_pos n
    omega
  refine ⟨Int.ediv_nonneg ha (by omega), ?_⟩
  exact Int.ediv_le_self _ ha
theorem sx_isl {a y : Int32} (h1 : 0 ≤ y.toInt) (h2 : y.toInt ≤ 31) : (a <<< (y &&& 31)).toInt = (a.toInt * 2 ^ y.toInt.toNat).bmod (2 ^ 32) := by
  obtain ⟨n, h3, h4, h5⟩ := sx_sl y
  have hn : n = y.toInt.toNat := by have := h5 h1 h2; omega
  subst hn
  have h6 := pk_shl a (y &&& 31) _ h4
  show (a <<< (y &&& 31)).toBitVec.toInt = _
  rw [BitVec.toInt_eq_toNat_bmod, h6]
  have h7 : a.toInt = ((a.toBitVec.toNat : Nat) : Int).bmod (2 ^ 32) := BitVec.toInt_eq_toNat_bmod a.toBitVec
  rw [h7, Int.bmod_mul_bmod]
  rw [show (((a.toBitVec.toNat * 2 ^ y.toInt.toNat % 2 ^ 32 : Nat)) : Int) = ((a.toBitVec.toNat : Int) * 2 ^ y.toInt.toNat) % ((2 ^ 32 : Nat) : Int) by rw [Int.natCast_emod, Int.natCast_mul, Int.natCast_pow]; rfl]
  rw [Int.emod_bmod]
theorem sx_ius {a y : Int32} : (0 ≤ a.toInt → 0 ≤ ((a.toUInt32 >>> (y.toUInt32 &&& Int32.toUInt32 31)).toInt32).toInt ∧ ((a.toUInt32 >>> (y.toUInt32 &&& Int32.toUInt32 31)).toInt32).toInt ≤ a.toInt) ∧ (1 ≤ y.toInt → y.toInt ≤ 31 → 0 ≤ ((a.toUInt32 >>> (y.toUInt32 &&& Int32.toUInt32 31)).toInt32).toInt ∧ ((a.toUInt32 >>> (y.toUInt32 &&& Int32.toUInt32 31)).toInt32).toInt ≤ 2 ^ (32 - y.toInt.toNat) - 1) := by
  have h1 := pk_ushr a y _ rfl
  generalize ((y.toUInt32 &&& Int32.toUInt32 31).toBitVec % 32).toNat = k at h1
  have key : ∀ m : Nat, (a.toUInt32 >>> (y.toUInt32 &&& Int32.toUInt32 31)).toInt32.toBitVec.toNat ≤ m → 2 * m < 2 ^ 32 → 0 ≤ ((a.toUInt32 >>> (y.toUInt32 &&& Int32.toUInt32 31)).toInt32).toInt ∧ ((a.toUInt32 >>> (y.toUInt32 &&& Int32.toUInt32 31)).toInt32).toInt ≤ m := fun m hm h2 => by
    have h3 := BitVec.toInt_eq_toNat_of_lt (x := (a.toUInt32 >>> (y.toUInt32 &&& Int32.toUInt32 31)).toInt32.toBitVec) (by omega)
    have h4 : ((a.toUInt32 >>> (y.toUInt32 &&& Int32.toUInt32 31)).toInt32).toInt = (a.toUInt32 >>> (y.toUInt32 &&& Int32.toUInt32 31)).toInt32.toBitVec.toInt := rfl
    omega
  refine ⟨fun ha => ?_, fun h2 h3 => ?_⟩
  · obtain ⟨h4, h5⟩ := sx_nn (x := a.toBitVec) ha
    have h6 : a.toBitVec.toNat / 2 ^ k ≤ a.toBitVec.toNat := Nat.div_le_self _ _
    have h7 := key a.toBitVec.toNat (by omega) h5
    have h8 : a.toInt = a.toBitVec.toInt := rfl
    omega
  · have h4 : y = Int32.ofNat y.toInt.toNat := by
      refine Int32.toInt_inj.mp ?_
      rw [Int32.toInt_ofNat_of_lt (by omega)]
      omega
    have h5 := pk_ushr a y y.toInt.toNat (by rw [h4]; have := sx_u5 y.toInt.toNat (by omega); rw [Int32.toInt_ofNat_of_lt (by omega)]; simpa using this)
    have h6 : a.toBitVec.toNat / 2 ^ y.toInt.toNat < 2 ^ (32 - y.toInt.toNat) := by
      rw [Nat.div_lt_iff_lt_mul (Nat.two_pow_pos _), ← Nat.pow_add, show 32 - y.toInt.toNat + y.toInt.toNat = 32 by omega]
      exact a.toBitVec.isLt
    have h7 : 2 ^ (32 - y.toInt.toNat) ≤ 2 ^ 31 := Nat.pow_le_pow_right (by decide) (by omega)
    have h8 := key (2 ^ (32 - y.toInt.toNat) - 1) (by omega) (by omega)
    have h9 : 0 < 2 ^ (32 - y.toInt.toNat) := Nat.two_pow_pos _
    have h10 : ((2 ^ (32 - y.toInt.toNat) - 1 : Nat) : Int) = 2 ^ (32 - y.toInt.toNat) - 1 := by
      rw [Int.natCast_sub (by omega)]
      push_cast
      rfl
    omega
theorem sx_xm (a : Int32) : (a ^^^ (-1)).toInt = -a.toInt - 1 := by
  have h1 : a ^^^ (-1) = ~~~a := by
    apply Int32.toBitVec_inj.mp
    show a.toBitVec ^^^ (-1 : Int32).toBitVec = ~~~a.toBitVec
    rw [show (-1 : Int32).toBitVec = BitVec.allOnes 32 by decide, BitVec.xor_allOnes]
  rw [h1, Int32.toInt_not]
  have h2 := a.le_toInt
  have h3 := a.toInt_lt
  exact sx_bm (by omega) (by omega)
theorem sx_rm {a b : Int32} (hb : b.toInt ≠ 0) : (a - a / b * b).toInt = a.toInt.tmod b.toInt := by
  rw [Int32.toInt_sub, Int32.toInt_mul, Int32.toInt_div, Int.bmod_mul_bmod, Int.sub_bmod_bmod]
  have h1 : a.toInt - a.toInt.tdiv b.toInt * b.toInt = a.toInt.tmod b.toInt := by
    have := Int.tmod_def a.toInt b.toInt
    rw [Int.mul_comm] at this
    omega
  rw [h1]
  have h2 : (a.toInt.tmod b.toInt).natAbs < b.toInt.natAbs := by
    rw [Int.natAbs_tmod]
    exact Nat.mod_lt _ (by omega)
  have h3 := b.le_toInt
  have h4 := b.toInt_lt
  exact sx_bm (by omega) (by omega)
