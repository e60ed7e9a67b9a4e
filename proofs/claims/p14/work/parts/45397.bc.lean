/-! ===== how many bits an int has ===== -/
theorem nd256 {a_w b_w c_w d_w : Nat} (hb_w : b_w < 256) (hd_w : d_w < 256) : (256 * a_w + b_w) &&& (256 * c_w + d_w) = 256 * (a_w &&& c_w) + (b_w &&& d_w) := by
  apply Nat.eq_of_testBit_eq
  intro j_w
  have hbd : (b_w &&& d_w) < 2 ^ 8 := Nat.and_lt_two_pow b_w (show d_w < 2 ^ 8 from hd_w)
  rw [Nat.testBit_and, show 256 * a_w + b_w = 2 ^ 8 * a_w + b_w from rfl, show 256 * c_w + d_w = 2 ^ 8 * c_w + d_w from rfl, show 256 * (a_w &&& c_w) + (b_w &&& d_w) = 2 ^ 8 * (a_w &&& c_w) + (b_w &&& d_w) from rfl, Nat.testBit_two_pow_mul_add a_w (show b_w < 2 ^ 8 from hb_w), Nat.testBit_two_pow_mul_add c_w (show d_w < 2 ^ 8 from hd_w), Nat.testBit_two_pow_mul_add (a_w &&& c_w) hbd]
  split
  · rw [Nat.testBit_and]
  · rw [Nat.testBit_and]
def pcN (n : Nat) : Nat → Nat
  | 0 => 0
  | k + 1 => pcN n k + (if n.testBit k = true then 1 else 0)
theorem pcN_lo {h l : Nat} (hl : l < 256) : ∀ k, k ≤ 8 → pcN (256 * h + l) k = pcN l k
  | 0, _ => rfl
  | k + 1, hk => by
    unfold pcN
    rw [pcN_lo hl k (by omega), show 256 * h + l = 2 ^ 8 * h + l from rfl, Nat.testBit_two_pow_mul_add h (show l < 2 ^ 8 from hl), if_pos (show k < 8 by omega)]
theorem pcN_hi {h l : Nat} (hl : l < 256) : ∀ k, pcN (256 * h + l) (8 + k) = pcN l 8 + pcN h k
  | 0 => pcN_lo hl 8 (Nat.le_refl _)
  | k + 1 => by
    show pcN (256 * h + l) (8 + k) + (if (256 * h + l).testBit (8 + k) = true then 1 else 0) = pcN l 8 + (pcN h k + (if h.testBit k = true then 1 else 0))
    rw [pcN_hi hl k, show 256 * h + l = 2 ^ 8 * h + l from rfl, Nat.testBit_two_pow_mul_add h (show l < 2 ^ 8 from hl), if_neg (show ¬ 8 + k < 8 by omega), show 8 + k - 8 = k by omega]
    omega
def by1 (l : Nat) : Nat := l - ((l >>> 1) &&& 85)
def by2 (l : Nat) : Nat := (l &&& 51) + ((l >>> 2) &&& 51)
def by3 (l : Nat) : Nat := (l + (l >>> 4)) &&& 15
theorem by_ok : ∀ l, l < 256 → by3 (by2 (by1 l)) = pcN l 8 ∧ by1 l < 256 ∧ by2 (by1 l) ≤ 68 ∧ by2 (by1 l) % 16 ≤ 4 ∧ by3 (by2 (by1 l)) ≤ 8 := by decide +kernel
theorem k85w : ∀ e_w, e_w < 2 → ∀ t, t < 128 → (128 * e_w + t) &&& 85 = t &&& 85 := by decide +kernel
theorem k51w : ∀ e_w, e_w < 4 → ∀ t, t < 64 → (64 * e_w + t) &&& 51 = t &&& 51 := by decide +kernel
theorem k15w : ∀ e_w, e_w < 5 → ∀ t, t < 69 → (t + (16 * e_w + t / 16)) &&& 15 = (t + t / 16) &&& 15 := by decide +kernel
theorem sr_1 (n : Nat) : n >>> 1 = n / 2 := by rw [Nat.shiftRight_eq_div_pow]
theorem sr_2 (n : Nat) : n >>> 2 = n / 4 := by rw [Nat.shiftRight_eq_div_pow]
theorem sr_4 (n : Nat) : n >>> 4 = n / 16 := by rw [Nat.shiftRight_eq_div_pow]
theorem sr_8 (n : Nat) : n >>> 8 = n / 256 := by rw [Nat.shiftRight_eq_div_pow]
theorem sr_16 (n : Nat) : n >>> 16 = n / 65536 := by rw [Nat.shiftRight_eq_div_pow]
theorem st1w {h l M_w : Nat} (hl : l < 256) : (256 * h + l) - (((256 * h + l) >>> 1) &&& (256 * M_w + 85)) = 256 * (h - ((h >>> 1) &&& M_w)) + by1 l := by
  have e_w : (256 * h + l) >>> 1 = 256 * (h >>> 1) + (128 * (h % 2) + l / 2) := by rw [sr_1, sr_1]; omega
  rw [e_w, nd256 (by omega) (by decide), k85w (h % 2) (by omega) (l / 2) (by omega)]
  have a1_w : (h >>> 1) &&& M_w ≤ h >>> 1 := Nat.and_le_left
  have a2 : (l / 2) &&& 85 ≤ l / 2 := Nat.and_le_left
  have a3 := sr_1 h
  unfold by1
  rw [sr_1 l]
  omega
theorem st2w {h l M_w : Nat} (hl : l < 256) : ((256 * h + l) &&& (256 * M_w + 51)) + (((256 * h + l) >>> 2) &&& (256 * M_w + 51)) = 256 * ((h &&& M_w) + ((h >>> 2) &&& M_w)) + by2 l := by
  have e_w : (256 * h + l) >>> 2 = 256 * (h >>> 2) + (64 * (h % 4) + l / 4) := by rw [sr_2, sr_2]; omega
  rw [e_w, nd256 hl (by decide), nd256 (show 64 * (h % 4) + l / 4 < 256 by omega) (by decide), k51w (h % 4) (by omega) (l / 4) (by omega)]
  unfold by2
  rw [sr_2 l]
  omega
theorem st3w {h l M_w : Nat} (hl : l ≤ 68) (hh : h % 16 ≤ 4) : ((256 * h + l) + ((256 * h + l) >>> 4)) &&& (256 * M_w + 15) = 256 * ((h + (h >>> 4)) &&& M_w) + by3 l := by
  have e_w : (256 * h + l) + ((256 * h + l) >>> 4) = 256 * (h + (h >>> 4)) + (l + (16 * (h % 16) + l / 16)) := by rw [sr_4, sr_4]; omega
  rw [e_w, nd256 (by omega) (by decide), k15w (h % 16) (by omega) l (by omega)]
  unfold by3
  rw [sr_4 l]
def wN (n : Nat) : Nat :=
  let a_w := n - ((n >>> 1) &&& 1431655765)
  let b_w := (a_w &&& 858993459) + ((a_w >>> 2) &&& 858993459)
  let c_w := (b_w + (b_w >>> 4)) &&& 252645135
  let d_w := c_w + (c_w >>> 8)
  let e_w := d_w + (d_w >>> 16)
  e_w &&& 63
theorem wN_e {g0 g1 g2 g3_w : Nat} (h0 : g0 ≤ 8) (h1 : g1 ≤ 8) (h2 : g2 ≤ 8) (h3 : g3_w ≤ 8) : (256 * (256 * (256 * g3_w + g2) + g1) + g0 + (256 * (256 * (256 * g3_w + g2) + g1) + g0) / 256 + (256 * (256 * (256 * g3_w + g2) + g1) + g0 + (256 * (256 * (256 * g3_w + g2) + g1) + g0) / 256) / 65536) % 2 ^ 6 = g0 + (g1 + (g2 + g3_w)) := by
  have e1_w : (256 * (256 * (256 * g3_w + g2) + g1) + g0) / 256 = 256 * (256 * g3_w + g2) + g1 := by omega
  rw [e1_w]
  have e2_w : (256 * (256 * (256 * g3_w + g2) + g1) + g0 + (256 * (256 * g3_w + g2) + g1)) / 65536 = 256 * g3_w + (g2 + g3_w) := by omega
  rw [e2_w]
  omega
theorem wN_b {b0 b1 b2 b3 : Nat} (h0 : b0 < 256) (h1 : b1 < 256) (h2 : b2 < 256) (h3 : b3 < 256) : wN (256 * (256 * (256 * b3 + b2) + b1) + b0) = pcN b0 8 + (pcN b1 8 + (pcN b2 8 + pcN b3 8)) := by
  obtain ⟨p0_w, q0, r0, s0_w, t0_w⟩ := by_ok b0 h0
  obtain ⟨p1_w, q1_w, r1_w, s1_w, t1_w⟩ := by_ok b1 h1
  obtain ⟨p2_w, q2_w, r2, s2_w, t2_w⟩ := by_ok b2 h2
  obtain ⟨p3_w, q3_w, r3, s3_w, t3_w⟩ := by_ok b3 h3
  unfold wN
  dsimp only
  rw [show (1431655765 : Nat) = 256 * (256 * (256 * 85 + 85) + 85) + 85 from rfl, st1w h0, st1w h1, st1w h2]
  rw [show b3 - ((b3 >>> 1) &&& 85) = by1 b3 from rfl]
  rw [show (858993459 : Nat) = 256 * (256 * (256 * 51 + 51) + 51) + 51 from rfl, st2w q0, st2w q1_w, st2w q2_w]
  rw [show (by1 b3 &&& 51) + ((by1 b3 >>> 2) &&& 51) = by2 (by1 b3) from rfl]
  rw [show (252645135 : Nat) = 256 * (256 * (256 * 15 + 15) + 15) + 15 from rfl, st3w r0 (by omega), st3w r1_w (by omega), st3w r2 s3_w]
  rw [show (by2 (by1 b3) + (by2 (by1 b3) >>> 4)) &&& 15 = by3 (by2 (by1 b3)) from rfl, p0_w, p1_w, p2_w, p3_w]
  rw [p0_w] at t0_w
  rw [p1_w] at t1_w
  rw [p2_w] at t2_w
  rw [p3_w] at t3_w
  rw [sr_8, sr_16, show (63 : Nat) = 2 ^ 6 - 1 from rfl, Nat.and_two_pow_sub_one_eq_mod]
  exact wN_e t0_w t1_w t2_w t3_w
theorem wN_ok {n : Nat} (h : n < 4294967296) : wN n = pcN n 32 := by
  obtain ⟨b0, b1, b2, b3, h0, h1, h2, h3, rfl⟩ : ∃ b0 b1 b2 b3, b0 < 256 ∧ b1 < 256 ∧ b2 < 256 ∧ b3 < 256 ∧ n = 256 * (256 * (256 * b3 + b2) + b1) + b0 := ⟨n % 256, n / 256 % 256, n / 65536 % 256, n / 16777216, by omega, by omega, by omega, by omega, by omega⟩
  rw [wN_b h0 h1 h2 h3, show 32 = 8 + (8 + (8 + 8)) from rfl, pcN_hi h0, pcN_hi h1, pcN_hi h2]
/-! the ints -/
theorem lu_w (x k : Int32) (j_w : Nat) (hk : (k.toUInt32 &&& Int32.toUInt32 31).toBitVec % 32 = BitVec.ofNat 32 j_w) (hj : j_w < 32) : (lo_u x k).toBitVec.toNat = x.toBitVec.toNat >>> j_w := by
  show (x.toBitVec >>> ((k.toUInt32 &&& Int32.toUInt32 31).toBitVec % 32)).toNat = _
  rw [hk]
  show (x.toBitVec >>> (BitVec.ofNat 32 j_w).toNat).toNat = _
  rw [BitVec.toNat_ushiftRight, BitVec.toNat_ofNat, Nat.mod_eq_of_lt (by omega)]
theorem an_w (x y_w : Int32) : (x &&& y_w).toBitVec.toNat = x.toBitVec.toNat &&& y_w.toBitVec.toNat := by rw [Int32.toBitVec_and, BitVec.toNat_and]
theorem ad_w (x y_w : Int32) (h : x.toBitVec.toNat + y_w.toBitVec.toNat < 4294967296) : (x + y_w).toBitVec.toNat = x.toBitVec.toNat + y_w.toBitVec.toNat := by
  rw [Int32.toBitVec_add, BitVec.toNat_add]
  exact Nat.mod_eq_of_lt h
theorem su_w (x y_w : Int32) (h : y_w.toBitVec.toNat ≤ x.toBitVec.toNat) : (x - y_w).toBitVec.toNat = x.toBitVec.toNat - y_w.toBitVec.toNat := by
  rw [Int32.toBitVec_sub, BitVec.toNat_sub_of_le (BitVec.le_def.mpr h)]
theorem lo_w (x : Int32) : (lo_f x).toBitVec.toNat = wN x.toBitVec.toNat := by
  have L1 := fun y_w => lu_w y_w 1 1 (by decide) (by decide)
  have L2_w := fun y_w => lu_w y_w 2 2 (by decide) (by decide)
  have L4_w := fun y_w => lu_w y_w 4 4 (by decide) (by decide)
  have L8_w := fun y_w => lu_w y_w 8 8 (by decide) (by decide)
  have L16 := fun y_w => lu_w y_w 16 16 (by decide) (by decide)
  have c1_w : (1431655765 : Int32).toBitVec.toNat = 1431655765 := by decide
  have c2_w : (858993459 : Int32).toBitVec.toNat = 858993459 := by decide
  have c3_w : (252645135 : Int32).toBitVec.toNat = 252645135 := by decide
  have c4_w : (63 : Int32).toBitVec.toNat = 63 := by decide
  have e1_w : (lo_1 x).toBitVec.toNat = x.toBitVec.toNat - ((x.toBitVec.toNat >>> 1) &&& 1431655765) := by
    unfold lo_1
    rw [su_w _ _ (by
      rw [an_w, L1, c1_w]
      have a1_w : (x.toBitVec.toNat >>> 1) &&& 1431655765 ≤ x.toBitVec.toNat >>> 1 := Nat.and_le_left
      rw [sr_1] at a1_w ⊢
      omega), an_w, L1, c1_w]
  unfold lo_f wN
  dsimp only
  rw [← e1_w]
  generalize lo_1 x = y1
  have e2_w : (lo_2 y1).toBitVec.toNat = (y1.toBitVec.toNat &&& 858993459) + ((y1.toBitVec.toNat >>> 2) &&& 858993459) := by
    unfold lo_2
    have a1_w : y1.toBitVec.toNat &&& 858993459 ≤ 858993459 := Nat.and_le_right
    have a2 : (y1.toBitVec.toNat >>> 2) &&& 858993459 ≤ 858993459 := Nat.and_le_right
    rw [ad_w _ _ (by rw [an_w, an_w, L2_w, c2_w]; omega), an_w, an_w, L2_w, c2_w]
  have b2 : (lo_2 y1).toBitVec.toNat ≤ 1717986918 := by
    have a1_w : y1.toBitVec.toNat &&& 858993459 ≤ 858993459 := Nat.and_le_right
    have a2 : (y1.toBitVec.toNat >>> 2) &&& 858993459 ≤ 858993459 := Nat.and_le_right
    omega
  rw [← e2_w]
  generalize lo_2 y1 = y2 at b2 ⊢
  have e3_w : (lo_3 y2).toBitVec.toNat = (y2.toBitVec.toNat + (y2.toBitVec.toNat >>> 4)) &&& 252645135 := by
    unfold lo_3
    rw [an_w, ad_w _ _ (by rw [L4_w, sr_4]; omega), L4_w, c3_w]
  have b3 : (lo_3 y2).toBitVec.toNat ≤ 252645135 := by
    rw [e3_w]
    exact Nat.and_le_right
  rw [← e3_w]
  generalize lo_3 y2 = y3 at b3 ⊢
  have e4_w : (lo_4 y3).toBitVec.toNat = y3.toBitVec.toNat + (y3.toBitVec.toNat >>> 8) := by
    unfold lo_4
    rw [ad_w _ _ (by rw [L8_w, sr_8]; omega), L8_w]
  have b4 : (lo_4 y3).toBitVec.toNat ≤ 300000000 := by
    rw [e4_w, sr_8]
    omega
  rw [← e4_w]
  generalize lo_4 y3 = y4 at b4 ⊢
  have e5_w : (lo_5 y4).toBitVec.toNat = y4.toBitVec.toNat + (y4.toBitVec.toNat >>> 16) := by
    unfold lo_5
    rw [ad_w _ _ (by rw [L16, sr_16]; omega), L16]
  rw [← e5_w]
  generalize lo_5 y4 = y5
  unfold lo_6
  rw [an_w, c4_w]
theorem pcN_le {n : Nat} : ∀ k, pcN n k ≤ k
  | 0 => Nat.le_refl _
  | k + 1 => by
    have := pcN_le (n := n) k
    unfold pcN
    split <;> omega
theorem pc_cnt {x : Int32} : ∀ k, pcN x.toBitVec.toNat k = cnt x k
  | 0 => rfl
  | k + 1 => by
    unfold pcN cnt
    rw [pc_cnt k]
    rfl
theorem bc_cnt {x : Int32} {m_w : dc_M} : d_J6_bitCount_0f7a4 x m_w = Int32.ofNat (cnt x 32) := by
  show lo_f x = _
  refine Int32.toBitVec_inj.mp (BitVec.eq_of_toNat_eq ?_)
  rw [lo_w, wN_ok x.toBitVec.isLt, pc_cnt]
  show _ = (BitVec.ofNat 32 (cnt x 32)).toNat
  have := cnt_le (x := x) 32
  rw [BitVec.toNat_ofNat, Nat.mod_eq_of_lt (by omega)]
theorem so_cn {x q_w : Int32} {m_w : dc_M} (h : d_X10_sizeOf x m_w = some q_w) : q_w = Int32.ofNat (cnt x 20) := by
  unfold d_X10_sizeOf d_X10_sizeOf_l4 at h
  refine dc_lp_inv (s := ((0 : Int32), (0 : Int32))) (fun s : Int32 × Int32 => (0 ≤ s.2.toInt ∧ s.2.toInt ≤ 20) ∧ s.1 = Int32.ofNat (cnt x s.2.toNatClampNeg)) (fun q_w : Int32 => q_w = Int32.ofNat (cnt x 20)) (fun s s' hI hs => ?_) (fun s q_w hI hs => ?_) ⟨⟨by decide, by decide⟩, rfl⟩ h
  · obtain ⟨⟨j0, j1⟩, j2_w⟩ := hI
    have hs : d_X10_sizeOf_l4b x s.1 s.2 m_w = some (.inl s') := hs
    unfold d_X10_sizeOf_l4b at hs
    by_cases c1_w : 20 ≤ s.2.toInt
    · rw [if_pos c1_w] at hs; cases hs
    · rw [if_neg c1_w] at hs
      have hn := cl_n j0
      have e1_w : (s.2 + 1).toInt = s.2.toInt + 1 := i1 (by omega) (Int32.le_toInt _)
      have n1_w := cl_n (x := s.2 + 1) (by omega)
      have hs := Sum.inl.inj (Option.some.inj hs)
      rw [← hs]
      refine ⟨⟨by show 0 ≤ (s.2 + 1).toInt; omega, by show (s.2 + 1).toInt ≤ _; omega⟩, ?_⟩
      show s.1 + ((x >>> (s.2 &&& 31)) &&& 1) = Int32.ofNat (cnt x (s.2 + 1).toNatClampNeg)
      have cl_w := cnt_le (x := x) s.2.toNatClampNeg
      rw [j2_w, b32_v ⟨j0, by omega⟩, show (s.2 + 1).toNatClampNeg = s.2.toNatClampNeg + 1 by omega]
      show _ = Int32.ofNat (cnt x s.2.toNatClampNeg + (if b32 x s.2.toNatClampNeg = true then 1 else 0))
      by_cases hb_w : b32 x s.2.toNatClampNeg = true
      · rw [if_pos hb_w, if_pos hb_w]
        refine Int32.toInt_inj.mp ?_
        rw [mk_i (by omega), i1 (by rw [mk_i (by omega)]; omega) (Int32.le_toInt _), mk_i (by omega)]
        omega
      · rw [if_neg hb_w, if_neg hb_w, Int32.add_zero, Nat.add_zero]
  · obtain ⟨⟨j0, j1⟩, j2_w⟩ := hI
    have hs : d_X10_sizeOf_l4b x s.1 s.2 m_w = some (.inr q_w) := hs
    unfold d_X10_sizeOf_l4b at hs
    by_cases c1_w : 20 ≤ s.2.toInt
    · rw [if_pos c1_w] at hs
      have hn := cl_n j0
      have hs := Sum.inr.inj (Option.some.inj hs)
      rw [← hs, j2_w, show s.2.toNatClampNeg = 20 by omega]
    · rw [if_neg c1_w] at hs; cases hs
theorem cnt_hi {x : Int32} {p_w : Nat} (h : ∀ k, p_w ≤ k → k < 32 → b32 x k = false) : ∀ k, p_w ≤ k → k ≤ 32 → cnt x k = cnt x p_w
  | 0, h0, _ => by rw [show p_w = 0 by omega]
  | k + 1, h1, h2 => by
    by_cases hp : p_w ≤ k
    · show cnt x k + (if b32 x k = true then 1 else 0) = cnt x p_w
      rw [cnt_hi h k hp (by omega), h k hp (by omega), if_neg (by decide), Nat.add_zero]
    · rw [show p_w = k + 1 by omega]
