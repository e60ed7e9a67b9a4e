theorem ow_sh {i w : Nat} (hi : i < 6) (hw : w < 6) : ((1 : Int32) <<< (Int32.ofNat i &&& 31)).toBitVec.getLsbD w = decide (w = i) := by
  have : ((List.range 6).all fun i => (List.range 6).all fun w => ((1 : Int32) <<< (Int32.ofNat i &&& 31)).toBitVec.getLsbD w == decide (w = i)) = true := by decide +kernel
  exact eq_of_beq (List.all_eq_true.mp (List.all_eq_true.mp this i (List.mem_range.mpr hi)) w (List.mem_range.mpr hw))
theorem ow_bit {ow : Nat → Int32} {w : Nat} (hw : w < 6) (ho : 0 < (ow w).toInt) : ∀ W, W ≤ 6 → w < W → (ow_v ow W).toBitVec.getLsbD w = true := by
  intro W
  induction W with
  | zero => intro _ h; omega
  | succ W ih =>
    intro h1 h2
    show (ow_v ow W ||| _).toBitVec.getLsbD w = true
    rw [Int32.toBitVec_or, BitVec.getLsbD_or, Bool.or_eq_true]
    by_cases e : w = W
    · right
      rw [← e, if_pos ho, ow_sh hw hw, decide_eq_true_eq]
    · exact Or.inl (ih (by omega) (by omega))
/-- states that do not quarrel aim alike on own wires -/
theorem ow_same {ow : Nat → Int32} {W w : Nat} {x y : Int32} (hW : W ≤ 6) (hw : w < W) (ho : 0 < (ow w).toInt) (h : (x ^^^ y) &&& ow_v ow W = 0) : am_b x (Int32.ofNat w) ↔ am_b y (Int32.ofNat w) := by
  rw [am_bit x (by omega), am_bit y (by omega)]
  have e : ((x ^^^ y) &&& ow_v ow W).toBitVec.getLsbD w = (0 : Int32).toBitVec.getLsbD w := by rw [h]
  rw [Int32.toBitVec_and, BitVec.getLsbD_and, Int32.toBitVec_xor, BitVec.getLsbD_xor, ow_bit (by omega) ho W hW hw, Bool.and_true] at e
  have e0 : (0 : Int32).toBitVec.getLsbD w = false := by
    show (0#32).getLsbD w = false
    rw [BitVec.getLsbD_zero]
  rw [e0] at e
  cases h1 : x.toBitVec.getLsbD w <;> cases h2 : y.toBitVec.getLsbD w <;> rw [h1, h2] at e <;> first | exact Iff.rfl | cases e
