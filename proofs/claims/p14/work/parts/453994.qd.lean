/-! ===== quarrels: the reference's rows, both sides ===== -/
theorem a63 {x : Int32} : 0 ≤ (x &&& 63).toInt ∧ (x &&& 63).toInt < 64 := by
  have h_w : (x &&& 63).toBitVec.toNat ≤ 63 := by
    rw [Int32.toBitVec_and, BitVec.toNat_and]
    exact Nat.le_trans Nat.and_le_right (by decide)
  have e_w : (x &&& 63).toInt = ((x &&& 63).toBitVec.toNat : Int) := by
    show (x &&& 63).toBitVec.toInt = _
    rw [BitVec.toInt_eq_toNat_of_lt (by omega)]
  omega
theorem b63w : ∀ k_w, k_w < 6 → b32 63 k_w = true := by decide +kernel
theorem a63_id {x : Int32} (h_w : ∀ j_w, 6 ≤ j_w → j_w < 32 → b32 x j_w = false) : x &&& 63 = x := b32_ext (fun k_w hk => by
  rw [b32_and]
  by_cases c : k_w < 6
  · rw [b63w k_w c, Bool.and_true]
  · rw [h_w k_w (by omega) hk, Bool.false_and])
/-- a state's level as a number -/
def lvw (f_w : Nat → Int32) (t : Nat) : Nat := ((f_w t) &&& 63).toNatClampNeg
theorem lvw_lt {f_w : Nat → Int32} {t : Nat} : lvw f_w t < 64 := by
  have h_w := a63 (x := f_w t)
  have := cl_n (x := f_w t &&& 63) h_w.1
  unfold lvw
  omega
theorem lvw_iff {f_w : Nat → Int32} {t u_w : Nat} (ht : ∀ j_w, 6 ≤ j_w → j_w < 32 → b32 (f_w t) j_w = false) (hu : ∀ j_w, 6 ≤ j_w → j_w < 32 → b32 (f_w u_w) j_w = false) : lvw f_w t = lvw f_w u_w ↔ f_w t = f_w u_w := by
  have a := a63 (x := f_w t)
  have b_w := a63 (x := f_w u_w)
  unfold lvw
  rw [a63_id ht] at a ⊢
  rw [a63_id hu] at b_w ⊢
  have a1_w := cl_n a.1
  have b1 := cl_n b_w.1
  constructor
  · intro h_w
    exact Int32.toInt_inj.mp (by omega)
  · intro h_w
    rw [h_w]
theorem on_1 {n_w : Nat} (h_w : n_w < 1000) : Int32.ofNat n_w + 1 = Int32.ofNat (n_w + 1) := by
  refine Int32.toInt_inj.mp ?_
  rw [i1 (by rw [mk_i (by omega)]; omega) (Int32.le_toInt _), mk_i (by omega), mk_i (by omega)]
  omega
theorem on_n {n_w : Nat} (h_w : n_w < 1000) : (Int32.ofNat n_w).toNatClampNeg = n_w := by
  have := cl_n (x := Int32.ofNat n_w) (by rw [mk_i (by omega)]; omega)
  rw [mk_i (by omega)] at this
  omega
/-- wires that are made, on both sides -/
theorem mdw_eq {a : Nat} {c m : dc_M} {q_w q' : Int32} (n0_w : c.1 a 0 = m.1 82 0) (nb : 0 ≤ (c.1 a 0).toInt ∧ (c.1 a 0).toInt ≤ 6) (hk : ∀ j_w : Nat, (j_w : Int) < (c.1 a 0).toInt → c.1 (a + 2) j_w = m.1 84 j_w ∧ 0 ≤ (c.1 (a + 2) j_w).toInt) (f_w : d_X3_madeWires a c = some q_w) (g_w : d_X10_ownWires 82 m = some q') : q_w = q' := by
  unfold d_X3_madeWires d_X3_madeWires_l4 at f_w
  unfold d_X10_ownWires d_X10_ownWires_l4 at g_w
  refine dc_lp_sim (s := ((0 : Int32), (0 : Int32))) (t := ((0 : Int32), (0 : Int32))) (fun s t : Int32 × Int32 => s = t ∧ 0 ≤ s.2.toInt) (fun q_w v_w : Int32 => q_w = v_w) (fun s t y_w z_w hR hf hg => ?_) ⟨rfl, by decide⟩ f_w g_w
  obtain ⟨rfl, j0⟩ := hR
  have hf : d_X3_madeWires_l4b a s.1 s.2 c = some y_w := hf
  have hg : d_X10_ownWires_l4b 82 s.1 s.2 m = some z_w := hg
  unfold d_X3_madeWires_l4b at hf
  unfold d_X10_ownWires_l4b at hg
  rw [← n0_w] at hg
  by_cases c1_w : (c.1 a 0).toInt ≤ s.2.toInt
  · rw [if_pos c1_w] at hf hg
    exact Or.inr ⟨_, _, (Option.some.inj hf).symm, (Option.some.inj hg).symm, rfl⟩
  · rw [if_neg c1_w] at hf hg
    have hn := cl_n j0
    have e1_w : (s.2 + 1).toInt = s.2.toInt + 1 := i1 (by omega) (Int32.le_toInt _)
    obtain ⟨k1_w, k2_w⟩ := hk s.2.toNatClampNeg (by omega)
    rw [show 82 + 2 = 84 from rfl, ← k1_w] at hg
    by_cases c2_w : (c.1 (a + 2) s.2.toNatClampNeg).toInt = 0
    · rw [if_pos c2_w] at hf
      rw [if_pos (show (c.1 (a + 2) s.2.toNatClampNeg).toInt ≤ 0 by omega), or_0] at hg
      exact Or.inl ⟨_, _, (Option.some.inj hf).symm, (Option.some.inj hg).symm, rfl, by show 0 ≤ (s.2 + 1).toInt; omega⟩
    · rw [if_neg c2_w] at hf
      rw [if_neg (show ¬ (c.1 (a + 2) s.2.toNatClampNeg).toInt ≤ 0 by omega)] at hg
      exact Or.inl ⟨_, _, (Option.some.inj hf).symm, (Option.some.inj hg).symm, rfl, by show 0 ≤ (s.2 + 1).toInt; omega⟩
theorem aims_w {x e_w q_w : Int32} {M_w : dc_M} (h_w : d_X10_aims 82 x M_w = some q_w) (he : ∀ p_w, d_X10_excited 82 x M_w = some p_w → p_w = e_w) : q_w = M_w.1 101 x.toNatClampNeg ^^^ e_w := by
  unfold d_X10_aims at h_w
  cases hx : d_X10_excited 82 x M_w with
  | none => rw [hx] at h_w; cases h_w
  | some p_w =>
    rw [hx, Option.bind_some, he p_w hx] at h_w
    exact (Option.some.inj h_w).symm
theorem xx_w {l a b_w : Int32} : (l ^^^ a) ^^^ (l ^^^ b_w) = b_w ^^^ a := b32_ext (fun k_w hk => by
  rw [b32_xor, b32_xor, b32_xor, b32_xor]
  cases b32 l k_w <;> cases b32 a k_w <;> cases b32 b_w k_w <;> rfl)
theorem b104_w {x1_w x2_w s0_w : Int32} {M_w : dc_M} {r_w : (Int32 × dc_M) ⊕ ((Int32 × dc_M) ⊕ dc_M)} (h_w : d_X10_layQuarrels_b104 82 x1_w x2_w s0_w 82 M_w = some r_w) : ∃ M', r_w = .inl (x2_w + 1, M') ∧ M'.1 82 41 = s0_w ∧ M'.1 82 42 = (if (M_w.1 82 40).toInt = 0 then x2_w else M_w.1 82 42) ∧ M'.1 82 40 = M_w.1 82 40 + 1 ∧ (∀ b_w j_w, ¬ (b_w = 82 ∧ 40 ≤ j_w ∧ j_w ≤ 42) → M'.1 b_w j_w = M_w.1 b_w j_w) ∧ M'.2 = M_w.2 := by
  unfold d_X10_layQuarrels_b104 at h_w
  have e40 : (dc_wi M_w 82 41 s0_w).1 82 40 = M_w.1 82 40 := wi_k (by omega)
  have e42_w : (dc_wi M_w 82 41 s0_w).1 82 42 = M_w.1 82 42 := wi_k (by omega)
  rw [e40] at h_w
  by_cases c : (M_w.1 82 40).toInt = 0
  · rw [if_neg (fun q_w => q_w c)] at h_w
    refine ⟨_, (Option.some.inj h_w).symm, ?_, ?_, ?_, fun b_w j_w hb_w => ?_, rfl⟩
    · rw [wi_k (by omega), wi_k (by omega)]; exact wi_s
    · rw [if_pos c, wi_k (by omega)]; exact wi_s
    · rw [wi_s, wi_k (by omega), e40]
    · rw [wi_k (by omega), wi_k (by omega), wi_k (by omega)]
  · rw [if_pos c] at h_w
    refine ⟨_, (Option.some.inj h_w).symm, ?_, ?_, ?_, fun b_w j_w hb_w => ?_, rfl⟩
    · rw [wi_k (by omega), wi_k (by omega)]; exact wi_s
    · rw [if_neg c, wi_k (by omega), wi_s, e42_w]
    · rw [wi_s, wi_k (by omega), e40]
    · rw [wi_k (by omega), wi_k (by omega), wi_k (by omega)]
theorem QRw.stw {lv : Nat → Nat} {E : Nat → Int32} {made : Int32} {n_w s : Nat} {m : dc_M} (q_w : QRw lv E made n_w s 0 m) : QRw lv E made n_w s (s + 1) m := by
  have z1 : ctw (fun u_w => decide (s < u_w) && decide (lv s = lv u_w)) (s + 1) = 0 := ctw_0 _ (fun k_w hk => by rw [decide_eq_false (show ¬ s < k_w by omega), Bool.false_and])
  have z2 : ctw (fun u_w => decide (s < u_w) && quv lv E made s u_w) (s + 1) = 0 := ctw_0 _ (fun k_w hk => by rw [decide_eq_false (show ¬ s < k_w by omega), Bool.false_and])
  refine ⟨?_, ?_, q_w.2.2.iff (fun t v_w => ⟨fun h_w => ⟨h_w.1, h_w.2.1, by omega⟩, fun h_w => ⟨h_w.1, h_w.2.1, by omega⟩⟩)⟩
  · rw [z1]; exact q_w.1
  · rw [z2]; exact q_w.2.1
theorem QRw.nxw {lv : Nat → Nat} {E : Nat → Int32} {made : Int32} {n_w s : Nat} {m : dc_M} (q_w : QRw lv E made n_w s n_w m) : QRw lv E made n_w (s + 1) 0 m := by
  refine ⟨?_, ?_, q_w.2.2.iff (fun t v_w => ⟨fun h_w => ⟨h_w.1, h_w.2.1, by omega⟩, fun h_w => ⟨h_w.1, h_w.2.1, by omega⟩⟩)⟩
  · have a := q_w.1
    show (m.1 82 39).toInt = ((smw (fun t => ctw (fun u_w => decide (t < u_w) && decide (lv t = lv u_w)) n_w) s + ctw (fun u_w => decide (s < u_w) && decide (lv s = lv u_w)) n_w : Nat) : Int) + ((0 : Nat) : Int)
    omega
  · have a := q_w.2.1
    show (m.1 82 40).toInt = ((smw (fun t => ctw (fun u_w => decide (t < u_w) && quv lv E made t u_w) n_w) s + ctw (fun u_w => decide (s < u_w) && quv lv E made s u_w) n_w : Nat) : Int) + ((0 : Nat) : Int)
    omega
theorem q36_run {lv : Nat → Nat} {E : Nat → Int32} {made : Int32} {n_w s : Nat} {m0 m : dc_M} {r_w : (Int32 × dc_M) ⊕ dc_M} (hn : n_w ≤ 200) (hs : s < n_w) (hn2 : (m0.1 82 32).toInt = n_w) (hlv : ∀ t u_w, t < n_w → u_w < n_w → (m0.1 101 t = m0.1 101 u_w ↔ lv t = lv u_w)) (hE : ∀ t M_w q_w, t < n_w → krq m0 M_w → d_X10_excited 82 (Int32.ofNat t) M_w = some q_w → q_w = E t) (hM_w : ∀ M_w q_w, krq m0 M_w → d_X10_ownWires 82 M_w = some q_w → q_w = made) (Q_w : QRw lv E made n_w s (s + 1) m) (K_w : krq m0 m) (h_w : d_X10_layQuarrels_l36 82 (Int32.ofNat s) (Int32.ofNat (s + 1)) m = some r_w) : ∃ m', r_w = .inl (Int32.ofNat s + 1, m') ∧ QRw lv E made n_w s n_w m' ∧ krq m0 m' := by
  unfold d_X10_layQuarrels_l36 at h_w
  refine dc_lp_inv (s := (Int32.ofNat (s + 1), m)) (fun z_w : Int32 × dc_M => ∃ u_w : Nat, u_w ≤ n_w ∧ s < u_w ∧ z_w.1 = Int32.ofNat u_w ∧ QRw lv E made n_w s u_w z_w.2 ∧ krq m0 z_w.2) (fun r_w : (Int32 × dc_M) ⊕ dc_M => ∃ m', r_w = .inl (Int32.ofNat s + 1, m') ∧ QRw lv E made n_w s n_w m' ∧ krq m0 m') (fun z_w z' hI hz => ?_) (fun z_w r_w hI hz => ?_) ⟨s + 1, by omega, by omega, rfl, Q_w, K_w⟩ h_w
  · obtain ⟨u_w, u1_w, u2_w, u3, u4, u5⟩ := hI
    obtain ⟨x2_w, zm⟩ := z_w
    have u3 : x2_w = Int32.ofNat u_w := u3
    have u4 : QRw lv E made n_w s u_w zm := u4
    have u5 : krq m0 zm := u5
    have hz : d_X10_layQuarrels_l36b 82 (Int32.ofNat s) x2_w zm = some (.inl z') := hz
    unfold d_X10_layQuarrels_l36b at hz
    have x2t : x2_w.toInt = u_w := by rw [u3]; exact mk_i (by omega)
    have x2n : x2_w.toNatClampNeg = u_w := by rw [u3]; exact on_n (by omega)
    have sn : (Int32.ofNat s).toNatClampNeg = s := on_n (by omega)
    rw [u5.1 82 32 (by omega), hn2, x2t] at hz
    by_cases c1_w : (n_w : Int) ≤ u_w
    · rw [if_pos c1_w] at hz; cases hz
    · rw [if_neg c1_w, show 82 + 19 = 101 from rfl, sn, x2n, u5.1 101 s (by omega), u5.1 101 u_w (by omega)] at hz
      have bd := u4.bd hn (by omega) u1_w
      have l := hlv s u_w (by omega) (by omega)
      have nx : x2_w + 1 = Int32.ofNat (u_w + 1) := by rw [u3]; exact on_1 (by omega)
      by_cases c2_w : (m0.1 101 s).toInt = (m0.1 101 u_w).toInt
      · have c2' : m0.1 101 s = m0.1 101 u_w := Int32.toInt_inj.mp c2_w
        have le_w := l.mp c2'
        rw [if_neg (fun q_w => q_w c2_w)] at hz
        have K1 : krq m0 (dc_wi zm 82 39 (zm.1 82 39 + 1)) := ⟨fun b_w j_w hb_w => (wi_k (by omega)).trans (u5.1 b_w j_w hb_w), u5.2⟩
        have e39 : (zm.1 82 39 + 1).toInt = (zm.1 82 39).toInt + 1 := i1 (by omega) (Int32.le_toInt _)
        have e40 : (zm.1 82 40 + 1).toInt = (zm.1 82 40).toInt + 1 := i1 (by omega) (Int32.le_toInt _)
        have v39 : (dc_wi zm 82 39 (zm.1 82 39 + 1)).1 82 39 = zm.1 82 39 + 1 := wi_s
        have v40 : (dc_wi zm 82 39 (zm.1 82 39 + 1)).1 82 40 = zm.1 82 40 := wi_k (by omega)
        have v41 : (dc_wi zm 82 39 (zm.1 82 39 + 1)).1 82 41 = zm.1 82 41 := wi_k (by omega)
        have v42 : (dc_wi zm 82 39 (zm.1 82 39 + 1)).1 82 42 = zm.1 82 42 := wi_k (by omega)
        generalize dc_wi zm 82 39 (zm.1 82 39 + 1) = M1 at *
        cases ha1 : d_X10_aims 82 (Int32.ofNat s) M1 with
        | none => rw [ha1] at hz; cases hz
        | some q1_w =>
          cases ha2 : d_X10_aims 82 x2_w M1 with
          | none => rw [ha1, Option.bind_some, ha2] at hz; cases hz
          | some q2_w =>
            cases ha3 : d_X10_ownWires 82 M1 with
            | none => rw [ha1, Option.bind_some, ha2, Option.bind_some, ha3] at hz; cases hz
            | some q3 =>
              rw [ha1, Option.bind_some, ha2, Option.bind_some, ha3, Option.bind_some] at hz
              have w1_w := aims_w ha1 (fun p_w hp => hE s M1 p_w (by omega) K1 hp)
              have w2_w := aims_w ha2 (fun p_w hp => hE u_w M1 p_w (by omega) K1 (by rw [← u3]; exact hp))
              rw [sn, K1.1 101 s (by omega)] at w1_w
              rw [x2n, K1.1 101 u_w (by omega), ← c2'] at w2_w
              rw [w1_w, w2_w, xx_w, hM_w M1 q3 K1 ha3] at hz
              have qv : quv lv E made s u_w = decide (((E u_w ^^^ E s) &&& made).toInt ≠ 0) := by
                unfold quv
                rw [decide_eq_true le_w, Bool.true_and]
              by_cases c3_w : ((E u_w ^^^ E s) &&& made).toInt = 0
              · rw [if_pos c3_w] at hz
                have hz := Sum.inl.inj (Option.some.inj hz)
                rw [← hz]
                refine ⟨u_w + 1, by omega, by omega, nx, u4.sk u2_w (by omega) ?_ ?_ v40 v41 v42, K1⟩
                · rw [if_pos le_w]
                  show (M1.1 82 39).toInt = _
                  rw [v39, e39]
                · rw [qv]
                  exact decide_eq_false (fun q_w => q_w c3_w)
              · rw [if_neg c3_w] at hz
                have qt : quv lv E made s u_w = true := by
                  rw [qv]
                  exact decide_eq_true c3_w
                by_cases c4_w : (zm.1 82 40).toInt = 0
                · rw [if_neg (show ¬ ¬ (M1.1 82 40).toInt = 0 from fun q_w => q_w (by rw [v40]; exact c4_w))] at hz
                  obtain ⟨M', r1_w, r2, r3, r4, r5_w, r6⟩ := b104_w hz
                  have r1_w := Sum.inl.inj r1_w
                  rw [r1_w]
                  refine ⟨u_w + 1, by omega, by omega, nx, u4.qu hn u2_w (by omega) le_w ?_ qt ?_ ?_ ?_, fun b_w j_w hb_w => (r5_w b_w j_w (by omega)).trans (K1.1 b_w j_w hb_w), r6.trans K1.2⟩
                  · show (M'.1 82 39).toInt = _
                    rw [r5_w 82 39 (by omega), v39, e39]
                  · show (M'.1 82 40).toInt = _
                    rw [r4, v40, e40]
                  · show M'.1 82 41 = _
                    rw [r2, if_pos c4_w]
                  · show M'.1 82 42 = _
                    rw [r3, v40, if_pos c4_w, if_pos c4_w, u3]
                · rw [if_pos (show ¬ (M1.1 82 40).toInt = 0 by rw [v40]; exact c4_w)] at hz
                  obtain ⟨M', r1_w, r2, r3, r4, r5_w, r6⟩ := b104_w hz
                  have r1_w := Sum.inl.inj r1_w
                  rw [r1_w]
                  refine ⟨u_w + 1, by omega, by omega, nx, u4.qu hn u2_w (by omega) le_w ?_ qt ?_ ?_ ?_, fun b_w j_w hb_w => (r5_w b_w j_w (by omega)).trans (K1.1 b_w j_w hb_w), r6.trans K1.2⟩
                  · show (M'.1 82 39).toInt = _
                    rw [r5_w 82 39 (by omega), v39, e39]
                  · show (M'.1 82 40).toInt = _
                    rw [r4, v40, e40]
                  · show M'.1 82 41 = _
                    rw [r2, if_neg c4_w, v41]
                  · show M'.1 82 42 = _
                    rw [r3, v40, if_neg c4_w, if_neg c4_w, v42]
      · rw [if_pos c2_w] at hz
        have hz := Sum.inl.inj (Option.some.inj hz)
        rw [← hz]
        have ne_w : ¬ lv s = lv u_w := fun q_w => c2_w (congrArg Int32.toInt (l.mpr q_w))
        refine ⟨u_w + 1, by omega, by omega, nx, u4.sk u2_w (by omega) ?_ ?_ rfl rfl rfl, u5⟩
        · rw [if_neg ne_w]
          show (zm.1 82 39).toInt = _
          omega
        · unfold quv
          rw [decide_eq_false ne_w, Bool.false_and]
  · obtain ⟨u_w, u1_w, u2_w, u3, u4, u5⟩ := hI
    obtain ⟨x2_w, zm⟩ := z_w
    have u3 : x2_w = Int32.ofNat u_w := u3
    have u4 : QRw lv E made n_w s u_w zm := u4
    have u5 : krq m0 zm := u5
    have hz : d_X10_layQuarrels_l36b 82 (Int32.ofNat s) x2_w zm = some (.inr r_w) := hz
    unfold d_X10_layQuarrels_l36b at hz
    have x2t : x2_w.toInt = u_w := by rw [u3]; exact mk_i (by omega)
    rw [u5.1 82 32 (by omega), hn2, x2t] at hz
    by_cases c1_w : (n_w : Int) ≤ u_w
    · rw [if_pos c1_w] at hz
      have hz := Sum.inr.inj (Option.some.inj hz)
      rw [show u_w = n_w by omega] at u4
      exact ⟨zm, hz.symm, u4, u5⟩
    · rw [if_neg c1_w] at hz
      split at hz
      · cases hz
      · cases ha1 : d_X10_aims 82 (Int32.ofNat s) (dc_wi zm 82 39 (zm.1 82 39 + 1)) with
        | none => rw [ha1] at hz; cases hz
        | some q1_w =>
          cases ha2 : d_X10_aims 82 x2_w (dc_wi zm 82 39 (zm.1 82 39 + 1)) with
          | none => rw [ha1, Option.bind_some, ha2] at hz; cases hz
          | some q2_w =>
            cases ha3 : d_X10_ownWires 82 (dc_wi zm 82 39 (zm.1 82 39 + 1)) with
            | none => rw [ha1, Option.bind_some, ha2, Option.bind_some, ha3] at hz; cases hz
            | some q3 =>
              rw [ha1, Option.bind_some, ha2, Option.bind_some, ha3, Option.bind_some] at hz
              split at hz
              · cases hz
              · split at hz
                · obtain ⟨M', r1_w, -⟩ := b104_w hz
                  cases r1_w
                · obtain ⟨M', r1_w, -⟩ := b104_w hz
                  cases r1_w
theorem q24_run {lv : Nat → Nat} {E : Nat → Int32} {made : Int32} {n_w : Nat} {m0 m e_w : dc_M} (hn : n_w ≤ 200) (hn2 : (m0.1 82 32).toInt = n_w) (hlv : ∀ t u_w, t < n_w → u_w < n_w → (m0.1 101 t = m0.1 101 u_w ↔ lv t = lv u_w)) (hE : ∀ t M_w q_w, t < n_w → krq m0 M_w → d_X10_excited 82 (Int32.ofNat t) M_w = some q_w → q_w = E t) (hM_w : ∀ M_w q_w, krq m0 M_w → d_X10_ownWires 82 M_w = some q_w → q_w = made) (Q_w : QRw lv E made n_w 0 0 m) (K_w : krq m0 m) (h_w : d_X10_layQuarrels_l24 82 0 m = some e_w) : QRw lv E made n_w n_w 0 e_w ∧ krq m0 e_w := by
  unfold d_X10_layQuarrels_l24 at h_w
  refine dc_lp_inv (s := ((0 : Int32), m)) (fun z_w : Int32 × dc_M => ∃ s : Nat, s ≤ n_w ∧ z_w.1 = Int32.ofNat s ∧ QRw lv E made n_w s 0 z_w.2 ∧ krq m0 z_w.2) (fun e_w : dc_M => QRw lv E made n_w n_w 0 e_w ∧ krq m0 e_w) (fun z_w z' hI hz => ?_) (fun z_w e_w hI hz => ?_) ⟨0, Nat.zero_le _, rfl, Q_w, K_w⟩ h_w
  · obtain ⟨s, s1_w, s2_w, s3, s4_w⟩ := hI
    obtain ⟨x1_w, zm⟩ := z_w
    have s2_w : x1_w = Int32.ofNat s := s2_w
    have s3 : QRw lv E made n_w s 0 zm := s3
    have s4_w : krq m0 zm := s4_w
    have hz : d_X10_layQuarrels_l24b 82 x1_w zm = some (.inl z') := hz
    unfold d_X10_layQuarrels_l24b at hz
    have xt : x1_w.toInt = s := by rw [s2_w]; exact mk_i (by omega)
    rw [s4_w.1 82 32 (by omega), hn2, xt] at hz
    by_cases c1_w : (n_w : Int) ≤ s
    · rw [if_pos c1_w] at hz; cases hz
    · rw [if_neg c1_w, s2_w, on_1 (by omega)] at hz
      obtain ⟨m', r1_w, r2, r3⟩ := q36_run hn (by omega) hn2 hlv hE hM_w s3.stw s4_w hz
      have r1_w := Sum.inl.inj r1_w
      rw [r1_w]
      exact ⟨s + 1, by omega, on_1 (by omega), r2.nxw, r3⟩
  · obtain ⟨s, s1_w, s2_w, s3, s4_w⟩ := hI
    obtain ⟨x1_w, zm⟩ := z_w
    have s2_w : x1_w = Int32.ofNat s := s2_w
    have s3 : QRw lv E made n_w s 0 zm := s3
    have s4_w : krq m0 zm := s4_w
    have hz : d_X10_layQuarrels_l24b 82 x1_w zm = some (.inr e_w) := hz
    unfold d_X10_layQuarrels_l24b at hz
    have xt : x1_w.toInt = s := by rw [s2_w]; exact mk_i (by omega)
    rw [s4_w.1 82 32 (by omega), hn2, xt] at hz
    by_cases c1_w : (n_w : Int) ≤ s
    · rw [if_pos c1_w] at hz
      have hz := Sum.inr.inj (Option.some.inj hz)
      rw [← hz]
      rw [show s = n_w by omega] at s3
      exact ⟨s3, s4_w⟩
    · rw [if_neg c1_w, s2_w, on_1 (by omega)] at hz
      obtain ⟨m', r1_w, -⟩ := q36_run hn (by omega) hn2 hlv hE hM_w s3.stw s4_w hz
      cases r1_w
theorem FPw.uqw {X_w Y : Nat → Nat → Prop} {P : Nat → Nat → Bool} {lo_w gr cn lo' gr' cn' : Int32} (h1 : FPw X_w P lo_w gr cn) (h2 : FPw Y P lo' gr' cn') (e_w : ∀ t u_w, X_w t u_w ↔ Y t u_w) (ec : cn.toInt = cn'.toInt) : lo_w = lo' ∧ gr = gr' := by
  rcases h1 with ⟨a1_w, a2, a3, -⟩ | ⟨a1_w, a, b_w, ⟨a2, a3⟩, a4, a5, a6, a7, a8⟩
  · rcases h2 with ⟨b1, b2, b3, -⟩ | ⟨b1, -⟩
    · exact ⟨a2.trans b2.symm, a3.trans b3.symm⟩
    · omega
  · rcases h2 with ⟨b1, -⟩ | ⟨b1, a', b', ⟨b2, b3⟩, b4, b5, b6, b7, b8⟩
    · omega
    · have r1_w := a8 a' b' ((e_w a' b').mpr b6) b7
      have r2 := b8 a b_w ((e_w a b_w).mp a6) a7
      have ea : a = a' := by omega
      have eb : b_w = b' := by omega
      rw [a4, a5, b4, b5, ea, eb]
      exact ⟨rfl, rfl⟩
theorem qeq_w {lv : Nat → Nat} {E : Nat → Int32} {made : Int32} {n_w : Nat} {c m : dc_M} (Q_w : QSw lv E made n_w c) (R_w : QRw lv E made n_w n_w 0 m) : c.1 12 0 = m.1 82 39 ∧ c.1 12 1 = m.1 82 40 ∧ c.1 12 2 = m.1 82 41 ∧ c.1 12 3 = m.1 82 42 := by
  obtain ⟨q1_w, q2_w, q3⟩ := Q_w
  obtain ⟨r1_w, r2, r3⟩ := R_w
  have p1_w : smw (fun t => ctw (fun u_w => decide (t < u_w) && decide (lv t = lv u_w)) n_w) n_w = smw (fun u_w => ctw (fun t => decide (lv t = lv u_w)) u_w) n_w := pairs_w (P := fun t u_w => decide (lv t = lv u_w)) n_w
  have p2_w : smw (fun t => ctw (fun u_w => decide (t < u_w) && quv lv E made t u_w) n_w) n_w = smw (fun u_w => ctw (fun t => quv lv E made t u_w) u_w) n_w := pairs_w (P := fun t u_w => quv lv E made t u_w) n_w
  have r1_w : (m.1 82 39).toInt = ((smw (fun t => ctw (fun u_w => decide (t < u_w) && decide (lv t = lv u_w)) n_w) n_w : Nat) : Int) + ((0 : Nat) : Int) := r1_w
  have r2 : (m.1 82 40).toInt = ((smw (fun t => ctw (fun u_w => decide (t < u_w) && quv lv E made t u_w) n_w) n_w : Nat) : Int) + ((0 : Nat) : Int) := r2
  rw [p1_w] at r1_w
  rw [p2_w] at r2
  have e0_w : (c.1 12 0).toInt = (m.1 82 39).toInt := by omega
  have e1_w : (c.1 12 1).toInt = (m.1 82 40).toInt := by omega
  obtain ⟨e2_w, e3_w⟩ := q3.uqw r3 (fun t u_w => ⟨fun h_w => ⟨h_w.1, h_w.2, by omega⟩, fun h_w => ⟨h_w.1, h_w.2.1⟩⟩) e1_w
  exact ⟨Int32.toInt_inj.mp e0_w, Int32.toInt_inj.mp e1_w, e2_w, e3_w⟩
theorem QSw.eqw {lv : Nat → Nat} {E : Nat → Int32} {made : Int32} {n_w : Nat} {c c' : dc_M} (Q_w : QSw lv E made n_w c) (e_w : ∀ k_w, k_w ≤ 3 → c'.1 12 k_w = c.1 12 k_w) : QSw lv E made n_w c' := by
  unfold QSw at Q_w ⊢
  rw [e_w 0 (by decide), e_w 1 (by decide), e_w 2 (by decide), e_w 3 (by decide)]
  exact Q_w
