/-! ===== feed, end, text on both sides ===== -/
/-- a byte, laid on both sides -/
theorem by_8 (x : Int32) : (-128 ≤ (dc_nar 1 (x.toInt8.toInt32)).toInt ∧ (dc_nar 1 (x.toInt8.toInt32)).toInt ≤ 127) ∧ (x &&& 255).toInt = if 0 ≤ (dc_nar 1 (x.toInt8.toInt32)).toInt then (dc_nar 1 (x.toInt8.toInt32)).toInt else (dc_nar 1 (x.toInt8.toInt32)).toInt + 256 := by
  have e1 : (dc_nar 1 (x.toInt8.toInt32)).toInt = x.toInt.bmod 256 := by
    unfold dc_nar
    rw [if_pos rfl, vp_nar_byte, Int8.toInt_toInt32, Int32.toInt_toInt8, Int8.toInt_toInt32, Int32.toInt_toInt8]
    rw [show ((2 : Nat) ^ 8) = 256 from rfl, Int.bmod_bmod]
  have e2 : (x &&& 255).toInt = x.toInt % 256 := by
    have h0 : (x &&& 255).toBitVec.toNat = x.toBitVec.toNat % 256 := by
      rw [Int32.toBitVec_and, BitVec.toNat_and]
      exact Nat.and_two_pow_sub_one_eq_mod _ 8
    have h1 : (x &&& 255).toInt = (x &&& 255).toBitVec.toInt := rfl
    have h2 : x.toInt = x.toBitVec.toInt := rfl
    rw [h1, h2, BitVec.toInt_eq_toNat_cond, BitVec.toInt_eq_toNat_cond, h0]
    have := x.toBitVec.isLt
    split <;> split <;> omega
  rw [e1, e2]
  rw [Int.bmod_def]
  split <;> (refine ⟨by omega, ?_⟩; split <;> omega)
theorem tp.up {c m c' m' : dc_M} (t : tp c m) (h1 : c'.1 2 1 = c.1 2 1) (h2 : ∀ j, c'.1 3 j = c.1 3 j) (h3 : m'.1 82 13 = m.1 82 13) (h4 : ∀ j, m'.1 91 j = m.1 91 j) : tp c' m' := by
  obtain ⟨t1, t2, t3, t4⟩ := t
  refine ⟨by rw [h1, h3]; exact t1, by rw [h1]; exact t2, by rw [h1]; exact t3, fun j hj => ?_⟩
  rw [h2, h4]
  exact t4 j hj
theorem fe_lp {V : Int64} {x : Int32} {c m : dc_M} {z z' : Int32 × dc_M} (t : tp c m) (ty : (c.2.2.2 3).1 = 1) (hx : (c.1 2 1).toInt * 8 + x.toInt + 8 ≤ 1920 ∧ -8 ≤ x.toInt ∧ x.toInt ≤ 56) (h1 : d_X4_append_l18 2 V x c = some z) (h2 : d_X10_feed_l19 82 V x m = some z') : tp z.2 z'.2 ∧ z.2.2 = c.2 ∧ (∀ b k, b ≠ 2 → b ≠ 3 → z.2.1 b k = c.1 b k) ∧ (∀ k, k ≠ 1 → z.2.1 2 k = c.1 2 k) ∧ (∀ b k, b ≠ 82 → b ≠ 91 → z'.2.1 b k = m.1 b k) ∧ (∀ k, k ≠ 13 → z'.2.1 82 k = m.1 82 k) ∧ z'.2.2 = m.2 ∧ z.1 = 1 ∧ z'.1 = z'.2.1 82 13 := by
  unfold d_X4_append_l18 at h1
  unfold d_X10_feed_l19 at h2
  refine dc_lp_sim (s := (x, c)) (t := (x, m)) (fun (s : Int32 × dc_M) (t : Int32 × dc_M) => s.1 = t.1 ∧ tp s.2 t.2 ∧ ((s.2.1 2 1).toInt * 8 + s.1.toInt + 8 ≤ 1920 ∧ -8 ≤ s.1.toInt ∧ s.1.toInt ≤ 56) ∧ s.2.2 = c.2 ∧ (∀ b k, b ≠ 2 → b ≠ 3 → s.2.1 b k = c.1 b k) ∧ (∀ k, k ≠ 1 → s.2.1 2 k = c.1 2 k) ∧ (∀ b k, b ≠ 82 → b ≠ 91 → t.2.1 b k = m.1 b k) ∧ (∀ k, k ≠ 13 → t.2.1 82 k = m.1 82 k) ∧ t.2.2 = m.2) (fun (z z' : Int32 × dc_M) => tp z.2 z'.2 ∧ z.2.2 = c.2 ∧ (∀ b k, b ≠ 2 → b ≠ 3 → z.2.1 b k = c.1 b k) ∧ (∀ k, k ≠ 1 → z.2.1 2 k = c.1 2 k) ∧ (∀ b k, b ≠ 82 → b ≠ 91 → z'.2.1 b k = m.1 b k) ∧ (∀ k, k ≠ 13 → z'.2.1 82 k = m.1 82 k) ∧ z'.2.2 = m.2 ∧ z.1 = 1 ∧ z'.1 = z'.2.1 82 13) (fun s t u v hg hf hk => ?_) ⟨rfl, t, hx, rfl, fun _ _ _ _ => rfl, fun _ _ => rfl, fun _ _ _ _ => rfl, fun _ _ => rfl, rfl⟩ h1 h2
  obtain ⟨x, s⟩ := s
  obtain ⟨y, t⟩ := t
  obtain ⟨e, T, ⟨b1, b2, b3⟩, r1, r2, r3, r4, r5, r6⟩ := hg
  have e : x = y := e
  subst e
  have T : tp s t := T
  have b1 : (s.1 2 1).toInt * 8 + x.toInt + 8 ≤ 1920 := b1
  have b2 : -8 ≤ x.toInt := b2
  have b3 : x.toInt ≤ 56 := b3
  have hf : d_X4_append_l18b 2 V x s = some u := hf
  have hk : d_X10_feed_l19b 82 V x t = some v := hk
  unfold d_X4_append_l18b at hf
  unfold d_X10_feed_l19b at hk
  by_cases hn : x.toInt < 0
  · rw [if_pos hn] at hf hk
    cases hf
    cases hk
    exact Or.inr ⟨_, _, rfl, rfl, T, r1, r2, r3, r4, r5, r6, rfl, rfl⟩
  · rw [if_neg hn] at hf hk
    generalize hw : Int64.toInt32 (V >>> (Int32.toInt64 x &&& 63)) = w at hf hk
    have ty' : (s.2.2.2 3).1 = 1 := by rw [show s.2 = c.2 from r1]; exact ty
    have hf : some (Sum.inl (x + -8, dc_wi (dc_wi s 2 1 (s.1 2 1 + 1)) 3 (s.1 2 1).toNatClampNeg (dc_nar (s.2.2.2 3).1 (w.toInt8.toInt32)))) = some u := hf
    rw [ty'] at hf
    have hk : some (Sum.inl (x + -8, dc_wi (dc_wi t 91 (t.1 82 13).toNatClampNeg (w &&& 255)) 82 13 (t.1 82 13 + 1))) = some v := hk
    cases hf
    cases hk
    have T0 := T
    obtain ⟨t1, t2, t3, t4⟩ := T
    have p1 : (s.1 2 1 + 1).toInt = (s.1 2 1).toInt + 1 := i1 (by omega) (Int32.le_toInt _)
    have p8 : (x + -8).toInt = x.toInt - 8 := by
      rw [Int32.toInt_add, show (-8 : Int32).toInt = -8 from rfl, sx_bm (by omega) (by omega)]
      omega
    have hc := cl_n t2
    obtain ⟨w1, w2⟩ := by_8 w
    generalize dc_nar 1 (w.toInt8.toInt32) = B at w1 w2 ⊢
    refine Or.inl ⟨_, _, rfl, rfl, rfl, ⟨?_, ?_, ?_, fun j hj => ?_⟩, ⟨?_, ?_, ?_⟩, r1, fun b k h2 h3 => ?_, fun k hk => ?_, fun b k h2 h3 => ?_, fun k hk => ?_, r6⟩
    · show s.1 2 1 + 1 = t.1 82 13 + 1
      rw [t1]
    · show 0 ≤ (s.1 2 1 + 1).toInt
      omega
    · show (s.1 2 1 + 1).toInt ≤ 240
      omega
    · show (-128 ≤ ((dc_wi (dc_wi s 2 1 (s.1 2 1 + 1)) 3 (s.1 2 1).toNatClampNeg B).1 3 j).toInt ∧ ((dc_wi (dc_wi s 2 1 (s.1 2 1 + 1)) 3 (s.1 2 1).toNatClampNeg B).1 3 j).toInt ≤ 127) ∧ ((dc_wi (dc_wi t 91 (t.1 82 13).toNatClampNeg (w &&& 255)) 82 13 (t.1 82 13 + 1)).1 91 j).toInt = if 0 ≤ ((dc_wi (dc_wi s 2 1 (s.1 2 1 + 1)) 3 (s.1 2 1).toNatClampNeg B).1 3 j).toInt then ((dc_wi (dc_wi s 2 1 (s.1 2 1 + 1)) 3 (s.1 2 1).toNatClampNeg B).1 3 j).toInt else ((dc_wi (dc_wi s 2 1 (s.1 2 1 + 1)) 3 (s.1 2 1).toNatClampNeg B).1 3 j).toInt + 256
      rw [← t1]
      by_cases hjn : j = (s.1 2 1).toNatClampNeg
      · rw [hjn, wi_s, wi_k (by omega), wi_s]
        exact ⟨w1, w2⟩
      · rw [wi_k (by omega), wi_k (by omega), wi_k (by omega), wi_k (by omega)]
        exact t4 j hj
    · show (s.1 2 1 + 1).toInt * 8 + (x + -8).toInt + 8 ≤ 1920
      omega
    · show -8 ≤ (x + -8).toInt
      omega
    · show (x + -8).toInt ≤ 56
      omega
    · show (dc_wi (dc_wi s 2 1 (s.1 2 1 + 1)) 3 (s.1 2 1).toNatClampNeg B).1 b k = c.1 b k
      rw [wi_k (by omega), wi_k (by omega)]
      exact r2 b k h2 h3
    · show (dc_wi (dc_wi s 2 1 (s.1 2 1 + 1)) 3 (s.1 2 1).toNatClampNeg B).1 2 k = c.1 2 k
      rw [wi_k (by omega), wi_k (by omega)]
      exact r3 k hk
    · show (dc_wi (dc_wi t 91 (t.1 82 13).toNatClampNeg (w &&& 255)) 82 13 (t.1 82 13 + 1)).1 b k = m.1 b k
      rw [wi_k (by omega), wi_k (by omega)]
      exact r4 b k h2 h3
    · show (dc_wi (dc_wi t 91 (t.1 82 13).toNatClampNeg (w &&& 255)) 82 13 (t.1 82 13 + 1)).1 82 k = m.1 82 k
      rw [wi_k (by omega), wi_k (by omega)]
      exact r5 k hk
/-- feed on both sides -/
theorem fe_sim {V : Int64} {v v' : Int32} {c m c' m' : dc_M} (t : tp c m) (ty : (c.2.2.2 3).1 = 1) (h1 : d_X9_feed 1 V c = some (v, c')) (h2 : d_X10_feed 82 V m = some (v', m')) : v = v' ∧ tp c' m' ∧ c'.2 = c.2 ∧ (∀ b k, b ≠ 2 → b ≠ 3 → c'.1 b k = c.1 b k) ∧ (∀ k, k ≠ 1 → c'.1 2 k = c.1 2 k) ∧ (∀ b k, b ≠ 82 → b ≠ 91 → m'.1 b k = m.1 b k) ∧ (∀ k, k ≠ 13 → m'.1 82 k = m.1 82 k) ∧ m'.2 = m.2 := by
  unfold d_X9_feed at h1
  unfold d_X10_feed at h2
  rw [show 1 + 1 = 2 from rfl] at h1
  cases hq : d_X4_append 2 V c with
  | none => rw [hq] at h1; cases h1
  | some q =>
    rw [hq, Option.bind_some] at h1
    unfold d_X4_append at hq
    have t2 := t.2.1
    have t3 := t.2.2.1
    rw [← t.1] at h2
    have e8 : (c.1 2 1 + 8).toInt = (c.1 2 1).toInt + 8 := by
      rw [Int32.toInt_add, show (8 : Int32).toInt = 8 from rfl, sx_bm (by omega) (by omega)]
    by_cases h8 : (c.1 2 1 + 8).toInt ≤ 240
    · rw [if_pos h8] at hq h2
      obtain ⟨r1, r2, r3, r4, r5, r6, r7, r8, r9⟩ := fe_lp (x := 56) t ty ⟨by rw [show (56 : Int32).toInt = 56 from rfl]; omega, by decide, by decide⟩ hq h2
      rw [r8, if_neg (by decide)] at h1
      cases h1
      exact ⟨by have r9 : v' = m'.1 82 13 := r9; rw [r9]; exact r1.1, r1, r2, r3, r4, r5, r6, r7⟩
    · rw [if_neg h8] at hq h2
      cases hq
      cases h2
      have h1 : some ((-3 : Int32), c) = some (v, c') := h1
      cases h1
      exact ⟨rfl, t, rfl, fun _ _ _ _ => rfl, fun _ _ => rfl, fun _ _ _ _ => rfl, fun _ _ => rfl, rfl⟩
/-- end on both sides -/
theorem en_sim {x v v' : Int32} {c m c' m' : dc_M} (t : tp c m) (h1 : d_X9_end 1 x c = (v, c')) (h2 : d_X10_end 82 x m = (v', m')) : v = v' ∧ tp c' m' ∧ c'.2 = c.2 ∧ (∀ b k, ¬ (b = 2 ∧ k = 1) → c'.1 b k = c.1 b k) ∧ (∀ b k, ¬ (b = 82 ∧ k = 13) → m'.1 b k = m.1 b k) ∧ m'.2 = m.2 := by
  have T := t
  obtain ⟨t1, t2, t3, t4⟩ := t
  unfold d_X9_end at h1
  unfold d_X10_end at h2
  rw [show 1 + 1 = 2 from rfl] at h1
  rw [← t1] at h2
  have bad : ¬ (0 ≤ x.toInt ∧ x.toInt ≤ (c.1 2 1).toInt) → d_X10_in (Int32.toInt64 x) 0 (Int32.toInt64 (c.1 2 1)) m = 0 := fun q => by
    rw [di_in, di_il, di_il, show (0 : Int64).toInt = 0 from rfl, if_neg q]
  by_cases hx : x.toInt < 0
  · rw [if_pos hx] at h1
    rw [bad (by omega), if_neg (fun q => q rfl)] at h2
    cases h1
    cases h2
    exact ⟨rfl, T, rfl, fun _ _ _ => rfl, fun _ _ _ => rfl, rfl⟩
  · rw [if_neg hx] at h1
    by_cases hy : x.toInt ≤ (c.1 2 1).toInt
    · rw [if_pos hy] at h1
      rw [di_in, di_il, di_il, show (0 : Int64).toInt = 0 from rfl, if_pos (show 0 ≤ x.toInt ∧ x.toInt ≤ (c.1 2 1).toInt from ⟨by omega, hy⟩), if_pos (by decide)] at h2
      cases h1
      cases h2
      refine ⟨rfl, ⟨rfl, by show 0 ≤ x.toInt; omega, by show x.toInt ≤ 240; omega, fun j hj => ?_⟩, rfl, fun b k h => wi_k h, fun b k h => wi_k h, rfl⟩
      rw [wi_k (by omega), wi_k (by omega)]
      exact t4 j hj
    · rw [if_neg hy] at h1
      rw [bad (by omega), if_neg (fun q => q rfl)] at h2
      cases h1
      cases h2
      exact ⟨rfl, T, rfl, fun _ _ _ => rfl, fun _ _ _ => rfl, rfl⟩
/-- text on both sides: its answer -/
theorem tx_ans {a a' : Nat} {v v' : Int32} {c m c' m' : dc_M} (hm : cs_md a' a) (ha : c.2.2.1 1 8 = a) (ha' : c.2.2.1 1 7 = a') (t : tp c m) (h1 : d_X9_text 1 c = some (v, c')) (h2 : d_X10_text 82 m = some (v', m')) : v = v' ∧ c'.1 2 1 = 0 ∧ m'.1 82 13 = 0 ∧ c'.1 2 2 = m'.1 82 14 ∧ ((c'.2.2.1 1 7 = a ∧ c'.2.2.1 1 8 = a') ∨ (c'.2.2.1 1 7 = a' ∧ c'.2.2.1 1 8 = a)) := by
  have h41 : a = 41 ∨ a = 52 := by
    rcases hm with ⟨-, rfl⟩ | ⟨-, rfl⟩
    · exact Or.inr rfl
    · exact Or.inl rfl
  unfold d_X9_text at h1
  rw [show 1 + 1 = 2 from rfl, ha] at h1
  cases hz : d_X4_readInto 2 a c with
  | none => rw [hz] at h1; cases h1
  | some z =>
    rw [hz, Option.bind_some] at h1
    have rr := rr_into hz
    have q7 : z.2.2.2.1 1 7 = a' := by rw [rr]; exact ha'
    have q8 : z.2.2.2.1 1 8 = a := by rw [rr]; exact ha
    rcases tx_sim h41 t hz h2 with ⟨z1, p, K, mm, l, hb⟩ | ⟨z1, f, g, d1, y1, y2, y3, -⟩
    · rw [z1, if_pos (by decide), dc_let_eq] at h1
      obtain ⟨b1, -, b2, -⟩ := tc_55 l.1.n2 hb
      have n2 := l.1.n1
      have pl : z.2.1 a 2 = mm.1 82 30 := l.2.2.1.2.2.2.1.1
      generalize hQ : d_X9_beginAnew 1 (dc_wr (dc_wr (dc_wi z.2 2 1 0) 1 7 ((dc_wi z.2 2 1 0).2.2.1 1 8)) 1 8 ((dc_wi z.2 2 1 0).2.2.1 1 7)) = Q at h1
      have Q7 : Q.2.2.1 1 7 = a := by rw [← hQ]; exact q8
      have Q8 : Q.2.2.1 1 8 = a' := by rw [← hQ]; exact q7
      have Qa : Q.1 a 2 = z.2.1 a 2 := by
        rw [← hQ]
        rcases h41 with rfl | rfl <;> rfl
      have Q1 : Q.1 2 1 = 0 := by rw [← hQ]; rfl
      have Q2 : Q.1 2 2 = z.2.1 2 2 := by rw [← hQ]; rfl
      rw [Q7] at h1
      cases h1
      refine ⟨?_, Q1, b2.2.1, ?_, Or.inl ⟨Q7, Q8⟩⟩
      · rw [Qa, pl]
        exact b1.symm
      · rw [Q2, n2]
        exact b2.1.symm
    · rw [z1, if_neg (fun q => q rfl)] at h1
      have h1 : some ((-10 : Int32) - z.2.1 2 3, dc_wi z.2 2 1 0) = some (v, c') := h1
      have h1 := Option.some.inj h1
      obtain ⟨hv, hc⟩ := Prod.mk.inj h1
      rw [← hv, ← hc]
      refine ⟨?_, rfl, y3, ?_, Or.inr ⟨q7, q8⟩⟩
      · show -10 - z.2.1 2 3 = v'
        rw [d1.2.1]
        exact y1.symm
      · show z.2.1 2 2 = m'.1 82 14
        rw [d1.1]
        exact y2.symm
