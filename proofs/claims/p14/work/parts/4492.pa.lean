/-! ===== bits of ints ===== -/
def b32 (x : Int32) (k : Nat) : Bool := x.toBitVec.getLsbD k
theorem b32_or {x y : Int32} {k : Nat} : b32 (x ||| y) k = (b32 x k || b32 y k) := by
  unfold b32
  rw [Int32.toBitVec_or, BitVec.getLsbD_or]
theorem b32_and {x y : Int32} {k : Nat} : b32 (x &&& y) k = (b32 x k && b32 y k) := by
  unfold b32
  rw [Int32.toBitVec_and, BitVec.getLsbD_and]
theorem b32_0 {k : Nat} : b32 0 k = false := by
  unfold b32
  rw [show (0 : Int32).toBitVec = 0#32 from rfl, BitVec.getLsbD_zero]
theorem b32_ext {x y : Int32} (h : ∀ k, k < 32 → b32 x k = b32 y k) : x = y := by
  apply Int32.toBitVec_inj.mp
  apply BitVec.eq_of_getLsbD_eq
  exact h
theorem b32_n {e : Int32} (h : 0 ≤ e.toInt ∧ e.toInt < 32) : ((e &&& 31).toBitVec.smod 32).toNat = e.toNatClampNeg := by
  have key : ∀ v, v < 32 → ((Int32.ofNat v &&& 31).toBitVec.smod 32).toNat = v := by decide
  have e1 : e = Int32.ofNat e.toNatClampNeg := by
    refine Int32.toInt_inj.mp ?_
    have := cl_n h.1
    rw [mk_i (by omega)]
    omega
  have := cl_n h.1
  have k := key e.toNatClampNeg (by omega)
  rw [← e1] at k
  exact k
/-- one bit, shifted up -/
theorem b32_1 {e : Int32} (h : 0 ≤ e.toInt ∧ e.toInt < 32) {k : Nat} (hk : k < 32) : b32 ((1 : Int32) <<< (e &&& 31)) k = decide (k = e.toNatClampNeg) := by
  unfold b32
  rw [Int32.toBitVec_shiftLeft, show (1 : Int32).toBitVec <<< ((e &&& 31).toBitVec.smod 32) = (1#32) <<< ((e &&& 31).toBitVec.smod 32).toNat from rfl, b32_n h, BitVec.getLsbD_shiftLeft, BitVec.getLsbD_one]
  have := cl_n h.1
  by_cases q : k = e.toNatClampNeg
  · rw [q]
    simp
    omega
  · by_cases q2 : k < e.toNatClampNeg
    · simp [q, q2]
    · have : ¬ k - e.toNatClampNeg = 0 := by omega
      simp [q, this]
/-- one bit, looked at -/
theorem b32_t {x e : Int32} (h : 0 ≤ e.toInt ∧ e.toInt < 32) : ((x >>> (e &&& 31)) &&& 1).toInt = 0 ↔ b32 x e.toNatClampNeg = false := by
  have hn := cl_n h.1
  have b0 : b32 (x >>> (e &&& 31)) 0 = b32 x e.toNatClampNeg := by
    unfold b32
    rw [Int32.toBitVec_shiftRight, show x.toBitVec.sshiftRight' ((e &&& 31).toBitVec.smod 32) = x.toBitVec.sshiftRight ((e &&& 31).toBitVec.smod 32).toNat from rfl, b32_n h, BitVec.getLsbD_sshiftRight, if_pos (by omega)]
    simp
  have key : ∀ y : Int32, (y &&& 1) = if b32 y 0 = true then 1 else 0 := fun y => by
    refine b32_ext (fun k hk => ?_)
    rw [b32_and]
    have o : b32 1 k = decide (k = 0) := by
      unfold b32
      rw [show (1 : Int32).toBitVec = 1#32 from rfl, BitVec.getLsbD_one]
      simp
    rw [o]
    by_cases hz : k = 0
    · subst hz
      cases hb : b32 y 0 with
      | true => rw [if_pos rfl, o]; rfl
      | false => rw [if_neg (by decide), b32_0]; rfl
    · rw [decide_eq_false hz, Bool.and_false]
      split
      · rw [o, decide_eq_false hz]
      · rw [b32_0]
  rw [key, b0]
  cases b32 x e.toNatClampNeg with
  | true => exact ⟨fun q => absurd q (by decide), fun q => absurd q (by decide)⟩
  | false => exact ⟨fun _ => rfl, fun _ => by decide⟩
/-- one bit of a row of bits -/
theorem b32_m {x e : Int32} (h : 0 ≤ e.toInt ∧ e.toInt < 32) : (x &&& ((1 : Int32) <<< (e &&& 31))).toInt = 0 ↔ b32 x e.toNatClampNeg = false := by
  have hn := cl_n h.1
  constructor
  · intro q
    have q : x &&& ((1 : Int32) <<< (e &&& 31)) = 0 := Int32.toInt_inj.mp q
    have b := congrArg (fun z => b32 z e.toNatClampNeg) q
    have b : b32 (x &&& ((1 : Int32) <<< (e &&& 31))) e.toNatClampNeg = b32 0 e.toNatClampNeg := b
    rw [b32_and, b32_1 h (by omega), b32_0, decide_eq_true rfl, Bool.and_true] at b
    exact b
  · intro q
    rw [show x &&& ((1 : Int32) <<< (e &&& 31)) = 0 from b32_ext (fun k hk => by
      rw [b32_and, b32_1 h hk, b32_0]
      by_cases z : k = e.toNatClampNeg
      · rw [z, q, Bool.false_and]
      · rw [decide_eq_false z, Bool.and_false])]
    rfl
