/-! ===== cubes: their digits ===== -/
theorem lc_div {a b : Nat} (ha : a < 2147483648) (hb : b < 2147483648) : Int32.ofNat a / Int32.ofNat b = Int32.ofNat (a / b) := by
  have h1 : a / b ≤ a := Nat.div_le_self a b
  apply Int32.toInt_inj.mp
  rw [Int32.toInt_div, mk_i ha, mk_i hb, mk_i (by omega), ← Int.ofNat_tdiv]
  generalize a / b = q at h1 ⊢
  rw [sx_bm (by omega) (by omega)]
theorem lc_mod {a b : Nat} (ha : a < 2147483648) (hb : b < 2147483648) : Int32.ofNat a - Int32.ofNat a / Int32.ofNat b * Int32.ofNat b = Int32.ofNat (a % b) := by
  have h1 : a / b ≤ a := Nat.div_le_self a b
  have h2 : a % b ≤ a := Nat.mod_le a b
  have h3 : a / b * b ≤ a := Nat.div_mul_le_self a b
  have h4 : a / b * b + a % b = a := by rw [Nat.mul_comm]; exact Nat.div_add_mod a b
  rw [lc_div ha hb]
  apply Int32.toInt_inj.mp
  have e : (Int32.ofNat (a / b) * Int32.ofNat b).toInt = ((a / b * b : Nat) : Int) := by
    rw [Int32.toInt_mul, mk_i (by omega), mk_i hb, ← Int.natCast_mul, sx_bm (by omega) (by omega)]
  rw [Int32.toInt_sub, e, mk_i ha, mk_i (by omega), sx_bm (by omega) (by omega)]
  omega
theorem lc_mul {a b : Nat} (ha : a < 2147483648) (hb : b < 2147483648) (h : a * b < 2147483648) : Int32.ofNat a * Int32.ofNat b = Int32.ofNat (a * b) := by
  apply Int32.toInt_inj.mp
  rw [Int32.toInt_mul, mk_i ha, mk_i hb, mk_i h, ← Int.natCast_mul, sx_bm (by omega) (by omega)]
theorem lc_add {a b : Nat} (h : a + b < 2147483648) : Int32.ofNat a + Int32.ofNat b = Int32.ofNat (a + b) := by
  apply Int32.toInt_inj.mp
  rw [Int32.toInt_add, mk_i (by omega), mk_i (by omega), mk_i h, sx_bm (by omega) (by omega)]
  omega
theorem lc_sub {a b : Nat} (h : b ≤ a) (ha : a < 2147483648) : Int32.ofNat a - Int32.ofNat b = Int32.ofNat (a - b) := by
  apply Int32.toInt_inj.mp
  rw [Int32.toInt_sub, mk_i (by omega), mk_i (by omega), mk_i (by omega), sx_bm (by omega) (by omega)]
  omega
theorem lc_two {W : Nat} (hW : W ≤ 6) : Int32.ofNat 1 <<< (Int32.ofNat W &&& 31) = Int32.ofNat (2 ^ W) := by
  have : ∀ W, W < 7 → Int32.ofNat 1 <<< (Int32.ofNat W &&& 31) = Int32.ofNat (2 ^ W) := by decide
  exact this W (by omega)
theorem lc_bit {l i : Nat} (hl : l < 64) (hi : i < 6) : (Int32.ofNat l >>> (Int32.ofNat i &&& 31)) &&& 1 = Int32.ofNat (l / 2 ^ i % 2) := by
  have : ((List.range 64).all fun l => (List.range 6).all fun i => decide ((Int32.ofNat l >>> (Int32.ofNat i &&& 31)) &&& 1 = Int32.ofNat (l / 2 ^ i % 2))) = true := by decide +kernel
  exact of_decide_eq_true (List.all_eq_true.mp (List.all_eq_true.mp this l (List.mem_range.mpr hl)) i (List.mem_range.mpr hi))
theorem lc_shl {v : Nat} (hv : v < 64) {i : Nat} (hi : i < 64) : mk_bt ((1 : Int64) <<< ((Int32.ofNat v).toInt64 &&& 63)) i = decide (i = v) := by
  have : ((List.range 64).all fun v => (List.range 64).all fun i => mk_bt ((1 : Int64) <<< ((Int32.ofNat v).toInt64 &&& 63)) i == decide (i = v)) = true := by decide +kernel
  exact eq_of_beq (List.all_eq_true.mp (List.all_eq_true.mp this v (List.mem_range.mpr hv)) i (List.mem_range.mpr hi))
/-- a digit of a cube -/
def dg (c i : Nat) : Nat := c / 3 ^ i % 3
def lc_bt (l i : Nat) : Nat := l / 2 ^ i % 2
/-- a cube has a level -/
def lc_C (W c l : Nat) : Prop := ∀ i, i < W → dg c i = 2 ∨ dg c i = lc_bt l i
def lc_hit (S : Int64) (W c : Nat) : Prop := ∃ l, l < 2 ^ W ∧ mk_bt S l = true ∧ lc_C W c l
def lc_up (c i : Nat) : Nat := c + (2 - dg c i) * 3 ^ i
def lc_prime (on off : Int64) (W c : Nat) : Prop := ¬ lc_hit off W c ∧ lc_hit on W c ∧ ∀ i, i < W → dg c i ≠ 2 → lc_hit off W (lc_up c i)
theorem lc_dgup {c i j : Nat} (hc : c < 729) (hi : i < 6) (hj : j < 6) : dg (lc_up c i) j = if j = i then 2 else dg c j := by
  have : ((List.range 729).all fun c => (List.range 6).all fun i => (List.range 6).all fun j => Nat.beq (dg (lc_up c i) j) (if j = i then 2 else dg c j)) = true := by decide +kernel
  exact Nat.eq_of_beq_eq_true (List.all_eq_true.mp (List.all_eq_true.mp (List.all_eq_true.mp this c (List.mem_range.mpr hc)) i (List.mem_range.mpr hi)) j (List.mem_range.mpr hj))
theorem lc_upb {W c i : Nat} (hW : W ≤ 6) (hc : c < 3 ^ W) (hi : i < W) : lc_up c i < 3 ^ W := by
  have : ((List.range 7).all fun W => (List.range (3 ^ W)).all fun c => (List.range W).all fun i => Nat.blt (lc_up c i) (3 ^ W)) = true := by decide +kernel
  have := List.all_eq_true.mp (List.all_eq_true.mp (List.all_eq_true.mp this W (List.mem_range.mpr (by omega))) c (List.mem_range.mpr hc)) i (List.mem_range.mpr hi)
  exact Nat.le_of_ble_eq_true this
theorem lc_upgt {c i : Nat} (h : dg c i ≠ 2) : c < lc_up c i := by
  have h1 : dg c i < 3 := Nat.mod_lt _ (by decide)
  have h2 : 0 < 3 ^ i := Nat.pow_pos (by decide)
  have h3 : 0 < (2 - dg c i) * 3 ^ i := Nat.mul_pos (by omega) h2
  unfold lc_up
  omega
def lc_mt (l : Nat) : Nat := lc_bt l 0 + lc_bt l 1 * 3 + lc_bt l 2 * 9 + lc_bt l 3 * 27 + lc_bt l 4 * 81 + lc_bt l 5 * 243
theorem lc_mtb {W l : Nat} (hW : W ≤ 6) (hl : l < 2 ^ W) : lc_mt l < 3 ^ W := by
  have : ((List.range 7).all fun W => (List.range (2 ^ W)).all fun l => Nat.blt (lc_mt l) (3 ^ W)) = true := by decide +kernel
  exact Nat.le_of_ble_eq_true (List.all_eq_true.mp (List.all_eq_true.mp this W (List.mem_range.mpr (by omega))) l (List.mem_range.mpr hl))
theorem lc_mtd {l i : Nat} (hl : l < 64) (hi : i < 6) : dg (lc_mt l) i = lc_bt l i := by
  have : ((List.range 64).all fun l => (List.range 6).all fun i => Nat.beq (dg (lc_mt l) i) (lc_bt l i)) = true := by decide +kernel
  exact Nat.eq_of_beq_eq_true (List.all_eq_true.mp (List.all_eq_true.mp this l (List.mem_range.mpr hl)) i (List.mem_range.mpr hi))
theorem lc_eq : ∀ {W l l' : Nat}, l < 2 ^ W → l' < 2 ^ W → (∀ i, i < W → lc_bt l i = lc_bt l' i) → l = l' := by
  intro W l l' h1 h2 h
  apply Nat.eq_of_testBit_eq
  intro i
  by_cases hi : i < W
  · have := h i hi
    unfold lc_bt at this
    rw [Nat.testBit_eq_decide_div_mod_eq, Nat.testBit_eq_decide_div_mod_eq, this]
  · rw [Nat.testBit_lt_two_pow (Nat.lt_of_lt_of_le h1 (Nat.pow_le_pow_right (by decide) (by omega))), Nat.testBit_lt_two_pow (Nat.lt_of_lt_of_le h2 (Nat.pow_le_pow_right (by decide) (by omega)))]
theorem lc_p3 {W : Nat} (hW : W ≤ 6) : 3 ^ W ≤ 729 := Nat.pow_le_pow_right (n := 3) (by decide) hW
theorem lc_p2 {W : Nat} (hW : W ≤ 6) : 2 ^ W ≤ 64 := Nat.pow_le_pow_right (n := 2) (by decide) hW
/-- each level of ons is in a prime cube -/
theorem lc_cover {W : Nat} (hW : W ≤ 6) {on off : Int64} {l : Nat} (hl : l < 2 ^ W) (hon : mk_bt on l = true) (hoff : mk_bt off l = false) : ∃ c, c < 3 ^ W ∧ lc_C W c l ∧ lc_prime on off W c := by
  have h3 := lc_p3 hW
  have h2 := lc_p2 hW
  have grow : ∀ (r c : Nat), c + r = 3 ^ W → c < 3 ^ W → lc_C W c l → ¬ lc_hit off W c → ∃ c, c < 3 ^ W ∧ lc_C W c l ∧ lc_prime on off W c := by
    intro r
    induction r using Nat.strongRecOn with
    | _ r ih =>
      intro c hr hc hC hno
      by_cases hp : ∀ i, i < W → dg c i ≠ 2 → lc_hit off W (lc_up c i)
      · exact ⟨c, hc, hC, hno, ⟨l, hl, hon, hC⟩, hp⟩
      · obtain ⟨i, hi⟩ := Classical.not_forall.mp hp
        obtain ⟨hi, hx⟩ := Classical.not_imp.mp hi
        obtain ⟨hd, hx⟩ := Classical.not_imp.mp hx
        have u1 := lc_upb hW hc hi
        have u2 := lc_upgt hd
        refine ih (3 ^ W - lc_up c i) (by omega) (lc_up c i) (by omega) u1 (fun j hj => ?_) hx
        rw [lc_dgup (by omega) (by omega) (by omega)]
        split
        · exact Or.inl rfl
        · exact hC j hj
  have hb := lc_mtb hW hl
  refine grow (3 ^ W - lc_mt l) (lc_mt l) (by omega) hb (fun i hi => Or.inr (lc_mtd (by omega) (by omega))) ?_
  intro ⟨l', h1, h4, h5⟩
  have e : l = l' := lc_eq hl h1 (fun i hi => by
    have e1 := lc_mtd (show l < 64 by omega) (show i < 6 by omega)
    have h6 : lc_bt l i < 2 := Nat.mod_lt _ (by decide)
    rcases h5 i hi with h7 | h7
    · omega
    · omega)
  rw [← e, hoff] at h4
  cases h4
