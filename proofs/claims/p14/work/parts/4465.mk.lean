/-! ===== bits of aims ===== -/
theorem am_bit (x : Int32) {w : Nat} (hw : w < 6) : am_b x (Int32.ofNat w) ↔ x.toBitVec.getLsbD w = true := by
  have key : ∀ v, v < 6 → ((Int32.ofNat v &&& 31).toBitVec.smod 32).toNat = v := by decide
  have e0 : (x >>> (Int32.ofNat w &&& 31)).toBitVec.getLsbD 0 = x.toBitVec.getLsbD w := by
    rw [Int32.toBitVec_shiftRight, show x.toBitVec.sshiftRight' ((Int32.ofNat w &&& 31).toBitVec.smod 32) = x.toBitVec.sshiftRight ((Int32.ofNat w &&& 31).toBitVec.smod 32).toNat from rfl, key w hw, BitVec.getLsbD_sshiftRight, if_pos (by omega)]
    simp
  rw [← e0]
  unfold am_b
  generalize x >>> (Int32.ofNat w &&& 31) = y
  have h0 : (y &&& 1).toBitVec.getLsbD 0 = y.toBitVec.getLsbD 0 := by
    rw [Int32.toBitVec_and, BitVec.getLsbD_and, show (1 : Int32).toBitVec.getLsbD 0 = true from rfl, Bool.and_true]
  rcases ll_and1 y with h | h
  · rw [h] at h0 ⊢
    rw [← h0]
    exact ⟨fun z => absurd z (by decide), fun z => absurd z (by decide)⟩
  · rw [h] at h0 ⊢
    rw [← h0]
    exact ⟨fun _ => rfl, fun _ => rfl⟩
