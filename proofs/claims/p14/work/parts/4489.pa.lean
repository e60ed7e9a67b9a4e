/-! ===== names ===== -/
theorem nv_b {t : Nat → Int32} {a : Nat} : ∀ k, k ≤ 5 → (∀ j, j < k → sml (t (a + j))) → 0 ≤ nv t a k ∧ nv t a k < 32 ^ k
  | 0, _, _ => ⟨Int.le_refl _, by show (0 : Int) < 1; decide⟩
  | k + 1, hk, hl => by
    obtain ⟨h1, h2⟩ := nv_b k (by omega) (fun j hj => hl j (by omega))
    have s := hl k (by omega)
    unfold sml at s
    unfold nv
    rw [if_pos (by omega), Int.pow_succ]
    omega
theorem nv_5 {t : Nat → Int32} {a k : Nat} (hk : k ≤ 5) (hl : ∀ j, j < k → sml (t (a + j))) : 0 ≤ nv t a k ∧ nv t a k < 33554432 := by
  obtain ⟨h1, h2⟩ := nv_b k hk hl
  refine ⟨h1, Int.lt_of_lt_of_le h2 ?_⟩
  rcases (show k = 0 ∨ k = 1 ∨ k = 2 ∨ k = 3 ∨ k = 4 ∨ k = 5 by omega) with rfl | rfl | rfl | rfl | rfl | rfl <;> decide
theorem sub_i {x y : Int32} (h1 : 0 ≤ x.toInt ∧ x.toInt ≤ 1000) (h2 : 0 ≤ y.toInt ∧ y.toInt ≤ 1000) : (x - y).toInt = x.toInt - y.toInt := by
  rw [Int32.toInt_sub, sx_bm (by omega) (by omega)]
/-- while a name is read -/
def nmI (c0 m0 c m : dc_M) : Prop := tp c m ∧ fc c0 c ∧ fm m0 m ∧ nf c m ∧ c.1 2 6 = m.1 82 18 ∧ (c.1 2 5).toInt = 1 ∧ 0 ≤ (c.1 2 6).toInt ∧ (c.1 2 6).toInt < (c.1 2 4).toInt ∧ (∀ j : Nat, (c.1 2 6).toInt ≤ j → (j : Int) < (c.1 2 4).toInt → sml (c.1 3 j)) ∧ (m.1 82 20).toInt = nv (c.1 3) (c.1 2 6).toNatClampNeg ((c.1 2 4).toNatClampNeg - (c.1 2 6).toNatClampNeg) ∧ c.1 2 7 = c.1 3 (c.1 2 6).toNatClampNeg ∧ (c0.1 2 4).toInt ≤ (c.1 2 6).toInt
def nmE (c0 m0 c m : dc_M) : Prop := fc c0 c ∧ fm m0 m ∧ tk c m ∧ (c0.1 2 4).toInt < (c.1 2 4).toInt
theorem nm_out {c0 m0 c m : dc_M} (g : nmI c0 m0 c m) : nmE c0 m0 c (dc_wi m 82 19 1) := by
  obtain ⟨t, x, y, n, e6, e5, a0, a1, l, v, b, pz⟩ := g
  have r : ∀ k, k ≠ 19 → (dc_wi m 82 19 1).1 82 k = m.1 82 k := fun k h => wi_k (by omega)
  refine ⟨x, y.w (by omega), ⟨⟨n.1, by rw [r 15 (by decide)]; exact n.2.1, by rw [r 17 (by decide)]; exact n.2.2.1, n.2.2.2⟩, by rw [r 18 (by decide)]; exact e6, ?_, a0, by omega, Or.inr (Or.inl ⟨e5, a1, l, by rw [r 20 (by decide)]; exact v, b⟩)⟩, by omega⟩
  rw [wi_s]
  exact Int32.toInt_inj.mp e5
theorem nm_go {c0 m0 c m : dc_M} (g : nmI c0 m0 c m) (h1 : (c.1 2 4).toInt < (c.1 2 1).toInt) (hs : sml (c.1 3 (c.1 2 4).toNatClampNeg)) {w : Int32} (hw : w.toInt = nv (c.1 3) (c.1 2 6).toNatClampNeg ((c.1 2 4).toNatClampNeg - (c.1 2 6).toNatClampNeg + 1)) : nmI c0 m0 (dc_wi c 2 4 (c.1 2 4 + 1)) (dc_wi (dc_wi m 82 20 w) 82 17 ((dc_wi m 82 20 w).1 82 17 + 1)) := by
  obtain ⟨t, x, y, n, e6, e5, a0, a1, l, v, b, pz⟩ := g
  obtain ⟨n1, n2, n3, n4, n5⟩ := n
  have tl := t.2.2.1
  generalize hc : dc_wi c 2 4 (c.1 2 4 + 1) = c'
  have rc : ∀ k, k ≠ 4 → c'.1 2 k = c.1 2 k := fun k h => by rw [← hc]; exact wi_k (by omega)
  have r4 : c'.1 2 4 = c.1 2 4 + 1 := by rw [← hc]; exact wi_s
  have r3 : ∀ j, c'.1 3 j = c.1 3 j := fun j => by rw [← hc]; exact wi_k (by omega)
  have rt : c'.1 3 = c.1 3 := funext r3
  have e17 : (dc_wi m 82 20 w).1 82 17 = m.1 82 17 := wi_k (by omega)
  rw [e17]
  generalize hm : dc_wi (dc_wi m 82 20 w) 82 17 (m.1 82 17 + 1) = m'
  have rm : ∀ k, k ≠ 17 → k ≠ 20 → m'.1 82 k = m.1 82 k := fun k h h' => by rw [← hm, wi_k (by omega), wi_k (by omega)]
  have r17 : m'.1 82 17 = m.1 82 17 + 1 := by rw [← hm]; exact wi_s
  have r20 : m'.1 82 20 = w := by rw [← hm, wi_k (by omega)]; exact wi_s
  have x' : fc c0 c' := by rw [← hc]; exact x.w (by omega)
  have y' : fm m0 m' := by rw [← hm]; exact (y.w (by omega)).w (by omega)
  have i4 : (c.1 2 4 + 1).toInt = (c.1 2 4).toInt + 1 := i1 (by omega) (by omega)
  have p4 := cl_n n4
  have p6 := cl_n a0
  have q4 : ((c.1 2 4 + 1).toNatClampNeg : Int) = (c.1 2 4 + 1).toInt := cl_n (by omega)
  have t' : tp c' m' := t.fr (by rw [← hc]; exact fc.rf.w (by omega)) (by rw [← hm]; exact (fm.rf.w (by omega)).w (by omega))
  refine ⟨t', x', y', ⟨by rw [rc 2 (by decide)]; exact n1, by rw [rm 15 (by decide) (by decide)]; exact n2, by rw [r4, r17, n3], by rw [r4, i4]; omega, by rw [r4, i4, rc 1 (by decide)]; omega⟩, by rw [rc 6 (by decide), rm 18 (by decide) (by decide)]; exact e6, by rw [rc 5 (by decide)]; exact e5, by rw [rc 6 (by decide)]; exact a0, by rw [rc 6 (by decide), r4, i4]; omega, fun j h1 h2 => ?_, ?_, by rw [rc 7 (by decide), rc 6 (by decide), rt]; exact b, by rw [rc 6 (by decide)]; exact pz⟩
  · rw [rc 6 (by decide)] at h1
    rw [r4, i4] at h2
    rw [r3]
    by_cases hj : (j : Int) < (c.1 2 4).toInt
    · exact l j h1 hj
    · rw [show j = (c.1 2 4).toNatClampNeg by omega]
      exact hs
  · rw [r20, rt, rc 6 (by decide), r4, hw]
    congr 1
    omega
theorem nm_loop {c0 m0 c m e e' : dc_M} (g : nmI c0 m0 c m) (h1 : d_X4_take_l109 2 c = some e) (h2 : d_X10_next_l84 82 m = some e') : nmE c0 m0 e e' := by
  unfold d_X4_take_l109 at h1
  unfold d_X10_next_l84 at h2
  refine dc_lp_sim (nmI c0 m0) (nmE c0 m0) (fun s t x y hg hf hk => ?_) g h1 h2
  have hg0 := hg
  obtain ⟨t1, -, -, n, e6, -, a0, a1, l, v, -, -⟩ := hg
  obtain ⟨n1, n2, n3, n4, n5⟩ := n
  have tl := t1.2.2.1
  unfold d_X4_take_l109s d_X4_take_l109b at hf
  unfold d_X10_next_l84s d_X10_next_l84b at hk
  by_cases hp : (s.1 2 1).toInt ≤ (s.1 2 4).toInt
  · rw [if_pos hp] at hf
    cases hf
    rw [if_pos ((in_0 (a := 97) (b := 122) rfl rfl).mpr (by rw [← n3, ba_out t1 hp]; omega))] at hk
    cases hk
    exact Or.inr ⟨_, _, rfl, rfl, nm_out hg0⟩
  · rw [if_neg hp, show 2 + 1 = 3 from rfl] at hf
    have bb := t1.b n4 (by omega)
    have ba := ba_in t1 n4 (show (s.1 2 4).toInt < (s.1 2 1).toInt by omega)
    by_cases hs : sml (s.1 3 (s.1 2 4).toNatClampNeg)
    · rw [if_neg (fun q => (is_sml.mp q) hs)] at hf
      cases hf
      have hs' := hs
      unfold sml at hs
      rw [if_pos (by omega)] at ba
      rw [if_neg (fun q => ((in_0 (a := 97) (b := 122) rfl rfl).mp q) (by rw [← n3, ba]; exact hs))] at hk
      have p4 := cl_n n4
      have p6 := cl_n a0
      have sb : (t.1 82 17 - t.1 82 18).toInt = (s.1 2 4).toInt - (s.1 2 6).toInt := by
        rw [← n3, ← e6]
        exact sub_i ⟨n4, by omega⟩ ⟨a0, by omega⟩
      rw [sb] at hk
      by_cases h5 : 5 ≤ (s.1 2 4).toInt - (s.1 2 6).toInt
      · rw [if_pos h5] at hk
        cases hk
        exact Or.inl ⟨_, _, rfl, rfl, nm_go hg0 (by omega) hs' (by unfold nv; rw [if_neg (by omega)]; rfl)⟩
      · rw [if_neg h5] at hk
        cases hk
        refine Or.inl ⟨_, _, rfl, rfl, nm_go hg0 (by omega) hs' ?_⟩
        have vb := nv_5 (t := s.1 3) (a := (s.1 2 6).toNatClampNeg) (k := (s.1 2 4).toNatClampNeg - (s.1 2 6).toNatClampNeg) (by omega) (fun j hj => l _ (by omega) (by omega))
        unfold nv
        rw [if_pos (by omega)]
        rw [← v] at vb ⊢
        have ba2 : (d_X10_byteAt 82 (t.1 82 17) t).toInt = (s.1 3 (s.1 2 4).toNatClampNeg).toInt := by rw [← n3, ba]
        rw [show (s.1 2 6).toNatClampNeg + ((s.1 2 4).toNatClampNeg - (s.1 2 6).toNatClampNeg) = (s.1 2 4).toNatClampNeg by omega, ← ba2]
        rw [← ba2] at hs
        generalize d_X10_byteAt 82 (t.1 82 17) t = z at hs ⊢
        generalize t.1 82 20 = w at vb ⊢
        have z1 : ((32 : Int32) * w).toInt = 32 * w.toInt := by
          rw [Int32.toInt_mul, show (32 : Int32).toInt = 32 from rfl, sx_bm (by omega) (by omega)]
        have z2 : ((32 : Int32) * w + z).toInt = 32 * w.toInt + z.toInt := by
          rw [Int32.toInt_add, z1, sx_bm (by omega) (by omega)]
        have z3 : ((32 : Int32) * w + z - 97).toInt = 32 * w.toInt + z.toInt - 97 := by
          rw [Int32.toInt_sub, z2, show (97 : Int32).toInt = 97 from rfl, sx_bm (by omega) (by omega)]
        rw [i1 (by omega) (by omega), z3]
        omega
    · rw [if_pos (is_sml.mpr hs)] at hf
      cases hf
      unfold sml at hs
      rw [if_pos ((in_0 (a := 97) (b := 122) rfl rfl).mpr (by rw [← n3, ba]; split <;> omega))] at hk
      cases hk
      exact Or.inr ⟨_, _, rfl, rfl, nm_out hg0⟩
theorem l84_eq {s : dc_M} : d_X10_next_l84 82 s = if (d_X10_in (Int32.toInt64 (d_X10_byteAt 82 (s.1 82 17) s)) 97 122 s).toInt = 0 then some (dc_wi s 82 19 1) else (if 5 ≤ (s.1 82 17 - s.1 82 18).toInt then d_X10_next_l84 82 (dc_wi (dc_wi s 82 20 (-1)) 82 17 ((dc_wi s 82 20 (-1)).1 82 17 + 1)) else d_X10_next_l84 82 (dc_wi (dc_wi s 82 20 (32 * s.1 82 20 + d_X10_byteAt 82 (s.1 82 17) s - 97 + 1)) 82 17 ((dc_wi s 82 20 (32 * s.1 82 20 + d_X10_byteAt 82 (s.1 82 17) s - 97 + 1)).1 82 17 + 1))) := by
  conv => lhs; unfold d_X10_next_l84
  rw [dc_lp_eq]
  unfold d_X10_next_l84s d_X10_next_l84b
  split
  · rfl
  · split <;> rfl
