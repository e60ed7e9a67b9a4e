/-! ===== a token ===== -/
def cM0 (c : dc_M) : dc_M := dc_wi c 2 6 (c.1 2 4)
def cM2 (c : dc_M) : dc_M := dc_wi (dc_wi (cM0 c) 2 7 (c.1 3 (c.1 2 4).toNatClampNeg)) 2 4 (c.1 2 4 + 1)
theorem b46_eq (c : dc_M) : d_X4_take_b46 2 c = (if (c.1 2 4).toInt < (c.1 2 1).toInt then (if (d_X4_isSmallLetter (c.1 3 (c.1 2 4).toNatClampNeg) (cM2 c)).toInt = 0 then (if (d_X4_isFigure (c.1 3 (c.1 2 4).toNatClampNeg) (cM2 c)).toInt = 0 then (if (c.1 3 (c.1 2 4).toNatClampNeg).toInt = 43 then some (dc_wi (cM2 c) 2 5 3) else (if (c.1 3 (c.1 2 4).toNatClampNeg).toInt = 45 then some (dc_wi (cM2 c) 2 5 3) else (if (c.1 3 (c.1 2 4).toNatClampNeg).toInt = 47 then some (dc_wi (cM2 c) 2 5 3) else (if (c.1 3 (c.1 2 4).toNatClampNeg).toInt = 62 then some (dc_wi (cM2 c) 2 5 3) else (if ¬ (c.1 3 (c.1 2 4).toNatClampNeg).toInt = 59 then some (d_X4_refuse 2 1 (c.1 2 4) (cM2 c)) else some (dc_wi (cM2 c) 2 5 3)))))) else (if (c.1 2 1).toInt ≤ (c.1 2 4 + 1).toInt then some (dc_wi (cM2 c) 2 5 2) else (if (d_X4_isFigure (c.1 3 (c.1 2 4 + 1).toNatClampNeg) (dc_wi (cM2 c) 2 5 2)).toInt = 0 then some (dc_wi (cM2 c) 2 5 2) else some (d_X4_refuse 2 1 (c.1 2 4) (dc_wi (cM2 c) 2 5 2))))) else d_X4_take_l109 2 (dc_wi (cM2 c) 2 5 1)) else some (dc_wi (cM0 c) 2 5 0)) := rfl
def mM1 (m : dc_M) : dc_M := dc_wi (dc_wi m 82 18 (m.1 82 17)) 82 20 0
def mM4 (m : dc_M) (z : Int32) : dc_M := dc_wi (dc_wi (dc_wi (mM1 m) 82 19 3) 82 20 z) 82 17 (m.1 82 17 + 1)
theorem b34_eq (m : dc_M) (z : Int32) (hz : d_X10_byteAt 82 (m.1 82 17) m = z) : d_X10_next_b34 82 m = (if ¬ z.toInt = -4 then (if (d_X10_in (Int32.toInt64 z) 97 122 (mM1 m)).toInt = 0 then (if (d_X10_in (Int32.toInt64 z) 48 57 (mM1 m)).toInt = 0 then (if z.toInt = 43 then some (mM4 m z) else (if z.toInt = 45 then some (mM4 m z) else (if z.toInt = 47 then some (mM4 m z) else (if z.toInt = 62 then some (mM4 m z) else (if z.toInt = 59 then some (mM4 m z) else some (d_X10_fails 82 1 (mM4 m z))))))) else d_X10_next_l182 82 z (mM1 m)) else d_X10_next_l84 82 (mM1 m)) else some (dc_wi (mM1 m) 82 19 0)) := by
  subst hz
  rfl
theorem rf_0 {c : dc_M} {w a : Int32} (h : c.1 2 2 = 0) : d_X4_refuse 2 w a c = dc_wi (dc_wi (dc_wi c 2 5 4) 2 2 w) 2 3 a := by
  unfold d_X4_refuse
  rw [wi_k (by omega), h]
  rfl
theorem rf_1 {c : dc_M} {w a : Int32} (h : ¬ (c.1 2 2).toInt = 0) : d_X4_refuse 2 w a c = dc_wi c 2 5 4 := by
  unfold d_X4_refuse
  rw [wi_k (by omega), if_pos h]
theorem fa_0 {m : dc_M} {w a : Int32} (h : m.1 82 15 = 0) : d_X10_failsAt 82 w a m = dc_wi (dc_wi m 82 15 w) 82 16 a := by
  unfold d_X10_failsAt
  rw [h]
  rfl
theorem fa_1 {m : dc_M} {w a : Int32} (h : ¬ (m.1 82 15).toInt = 0) : d_X10_failsAt 82 w a m = m := by
  unfold d_X10_failsAt
  rw [if_pos h]
theorem fs_eq {m : dc_M} {w : Int32} : d_X10_fails 82 w m = d_X10_failsAt 82 w (m.1 82 18) m := rfl
/-- a fault told on both sides -/
theorem ft_mk {c m : dc_M} {w a b : Int32} (h1 : c.1 2 2 = 0) (h2 : m.1 82 15 = 0) (hw : 0 < w.toInt) (hab : a = b) : ft (d_X4_refuse 2 w a c) (d_X10_failsAt 82 w b m) ∧ fc c (d_X4_refuse 2 w a c) ∧ fm m (d_X10_failsAt 82 w b m) := by
  rw [rf_0 h1, fa_0 h2]
  have e1 : (dc_wi (dc_wi (dc_wi c 2 5 4) 2 2 w) 2 3 a).1 2 2 = w := by rw [wi_k (by omega)]; exact wi_s
  have e2 : (dc_wi (dc_wi m 82 15 w) 82 16 b).1 82 15 = w := by rw [wi_k (by omega)]; exact wi_s
  exact ⟨⟨by rw [e1]; exact hw, by rw [e1, e2], by rw [wi_s, wi_s, hab]⟩, ((fc.rf.w (by omega)).w (by omega)).w (by omega), (fm.rf.w (by omega)).w (by omega)⟩
def skI (c0 m0 c m : dc_M) : Prop := tp c m ∧ fc c0 c ∧ fm m0 m ∧ nf c m ∧ (c0.1 2 4).toInt ≤ (c.1 2 4).toInt
def tkE (c0 m0 c m : dc_M) : Prop := fc c0 c ∧ fm m0 m ∧ ((tk c m ∧ ((c.1 2 5).toInt ≠ 0 → (c0.1 2 4).toInt < (c.1 2 4).toInt)) ∨ ft c m)
theorem l182_eq {z : Int32} {s : dc_M} : d_X10_next_l182 82 z s = if (d_X10_in (Int32.toInt64 (d_X10_byteAt 82 (s.1 82 17) s)) 48 57 s).toInt = 0 then d_X10_next_b216 82 z s else d_X10_next_l182 82 z (dc_wi s 82 17 (s.1 82 17 + 1)) := by
  conv => lhs; unfold d_X10_next_l182
  rw [dc_lp_eq]
  unfold d_X10_next_l182s d_X10_next_l182b
  split
  · exact dc_mb
  · rfl
/-- more figures than one -/
theorem fg_more {m0 m e' : dc_M} {z p : Int32} (hp : 0 ≤ p.toInt ∧ p.toInt ≤ 240) (h13 : (m0.1 82 13).toInt ≤ 240) (hf : fm m0 m) (h15 : m.1 82 15 = 0) (h18 : m.1 82 18 = p) (h17 : p.toInt + 2 ≤ (m.1 82 17).toInt ∧ (m.1 82 17).toInt ≤ 240) (h : d_X10_next_l182 82 z m = some e') : fm m0 e' ∧ e'.1 82 15 = 1 ∧ e'.1 82 16 = p := by
  unfold d_X10_next_l182 at h
  refine dc_lp_inv (f := d_X10_next_l182s 82 z) (fun s => fm m0 s ∧ s.1 82 15 = 0 ∧ s.1 82 18 = p ∧ p.toInt + 2 ≤ (s.1 82 17).toInt ∧ (s.1 82 17).toInt ≤ 240) (fun e => fm m0 e ∧ e.1 82 15 = 1 ∧ e.1 82 16 = p) (fun s s' hI e => ?_) (fun s e hI e2 => ?_) ⟨hf, h15, h18, h17⟩ h
  · obtain ⟨i1', i2, i3, i4, i5⟩ := hI
    unfold d_X10_next_l182s d_X10_next_l182b at e
    split at e
    · cases hb : d_X10_next_b216 82 z s with
      | none => rw [hb] at e; cases e
      | some q => rw [hb] at e; cases e
    · rename_i hn
      cases e
      have hlt : (s.1 82 17).toInt < 240 := by
        have q := fun z => hn ((in_0 (a := 48) (b := 57) rfl rfl).mpr z)
        unfold d_X10_byteAt at q
        have e13 := i1'.1 82 13 (by omega)
        by_cases hh : (s.1 82 13).toInt ≤ (s.1 82 17).toInt
        · rw [if_pos hh] at q
          exact absurd (show ¬ (48 ≤ (-4 : Int32).toInt ∧ (-4 : Int32).toInt ≤ 57) by decide) q
        · rw [e13] at hh
          omega
      have e1 : (s.1 82 17 + 1).toInt = (s.1 82 17).toInt + 1 := i1 (by omega) (by omega)
      refine ⟨i1'.w (by omega), by rw [wi_k (by omega)]; exact i2, by rw [wi_k (by omega)]; exact i3, ?_, ?_⟩
      · rw [wi_s, e1]; omega
      · rw [wi_s, e1]; omega
  · obtain ⟨i1', i2, i3, i4, i5⟩ := hI
    unfold d_X10_next_l182s d_X10_next_l182b at e2
    split at e2
    · cases hb : d_X10_next_b216 82 z s with
      | none => rw [hb] at e2; cases e2
      | some q =>
        rw [hb] at e2
        cases e2
        unfold d_X10_next_b216 at hb
        have hb : (if (s.1 82 17 - s.1 82 18).toInt ≤ 1 then some (dc_wi (dc_wi s 82 20 (z - 48)) 82 19 2) else some (d_X10_failsAt 82 1 (s.1 82 18) (dc_wi (dc_wi s 82 20 (z - 48)) 82 19 2))) = some e := hb
        rw [i3, sub_i ⟨by omega, by omega⟩ ⟨by omega, by omega⟩, if_neg (by omega)] at hb
        have h15' : (dc_wi (dc_wi s 82 20 (z - 48)) 82 19 2).1 82 15 = 0 := by rw [wi_k (by omega), wi_k (by omega)]; exact i2
        rw [fa_0 h15'] at hb
        cases hb
        refine ⟨(((i1'.w (by omega)).w (by omega)).w (by omega)).w (by omega), ?_, wi_s⟩
        rw [wi_k (by omega)]
        exact wi_s
    · cases e2
/-- what begins with one letter, figure or sign -/
theorem tk_46 {c0 m0 c m e e' : dc_M} (g : skI c0 m0 c m) (h1 : d_X4_take_b46 2 c = some e) (h2 : d_X10_next_b34 82 m = some e') : tkE c0 m0 e e' := by
  obtain ⟨t, x, y, n, pr⟩ := g
  obtain ⟨n1, n2, n3, n4, n5⟩ := n
  have tl := t.2.2.1
  rw [b46_eq] at h1
  rw [b34_eq m _ rfl] at h2
  generalize hz : d_X10_byteAt 82 (m.1 82 17) m = z at h2
  have e17 : (c.1 2 4 + 1).toInt = (c.1 2 4).toInt + 1 := i1 (by omega) (by omega)
  -- the class's memories
  have A0 : fc c0 (cM0 c) := x.w (by omega)
  have A2 : fc c0 (cM2 c) := (A0.w (by omega)).w (by omega)
  have B1 : fm m0 (mM1 m) := (y.w (by omega)).w (by omega)
  have B4 : fm m0 (mM4 m z) := ((B1.w (by omega)).w (by omega)).w (by omega)
  by_cases hp : (c.1 2 4).toInt < (c.1 2 1).toInt
  · rw [if_pos hp] at h1
    have bb := t.b n4 hp
    have ba := ba_in t n4 hp
    rw [n3, hz] at ba
    rw [← n3] at ba
    generalize hB : c.1 3 (c.1 2 4).toNatClampNeg = B at h1 bb ba
    have zn : ¬ z.toInt = -4 := by rw [ba]; split <;> omega
    rw [if_pos zn] at h2
    by_cases hs : sml B
    · -- a name
      rw [if_neg (fun q => (is_sml.mp q) hs)] at h1
      have hs' := hs
      unfold sml at hs
      rw [if_pos (by omega)] at ba
      rw [if_neg (fun q => ((in_0 (a := 97) (b := 122) rfl rfl).mp q) (by rw [ba]; exact hs))] at h2
      rw [l84_eq] at h2
      have zz : d_X10_byteAt 82 ((mM1 m).1 82 17) (mM1 m) = z := hz
      rw [zz, if_neg (fun q => ((in_0 (a := 97) (b := 122) rfl rfl).mp q) (by rw [ba]; exact hs)), if_neg (by show ¬ 5 ≤ (m.1 82 17 - m.1 82 17).toInt; rw [Int32.sub_self]; decide)] at h2
      have V : ((32 : Int32) * (mM1 m).1 82 20 + z - 97 + 1).toInt = B.toInt - 96 := by
        rw [show (mM1 m).1 82 20 = 0 from rfl, show (32 : Int32) * 0 = 0 from rfl, Int32.zero_add, i1 (by rw [Int32.toInt_sub, show (97 : Int32).toInt = 97 from rfl, sx_bm (by omega) (by omega)]; omega) (Int32.le_toInt _), Int32.toInt_sub, show (97 : Int32).toInt = 97 from rfl, sx_bm (by omega) (by omega)]
        omega
      generalize (32 : Int32) * (mM1 m).1 82 20 + z - 97 + 1 = w at h2 V
      have p4 := cl_n n4
      have q4 : ((c.1 2 4 + 1).toNatClampNeg : Int) = (c.1 2 4 + 1).toInt := cl_n (by omega)
      have g : nmI c0 m0 (dc_wi (cM2 c) 2 5 1) (dc_wi (dc_wi (mM1 m) 82 20 w) 82 17 ((dc_wi (mM1 m) 82 20 w).1 82 17 + 1)) := by
        refine ⟨t.fr (((((fc.rf.w (by omega)).w (by omega)).w (by omega)).w (by omega))) ((((fm.rf.w (by omega)).w (by omega)).w (by omega)).w (by omega)), A2.w (by omega), (B1.w (by omega)).w (by omega), ⟨n1, n2, show c.1 2 4 + 1 = m.1 82 17 + 1 by rw [n3], ?_, ?_⟩, n3, rfl, n4, ?_, fun j j1 j2 => ?_, ?_, rfl, pr⟩
        · show 0 ≤ (c.1 2 4 + 1).toInt
          omega
        · show (c.1 2 4 + 1).toInt ≤ (c.1 2 1).toInt
          omega
        · show (c.1 2 4).toInt < (c.1 2 4 + 1).toInt
          omega
        · have j1 : (c.1 2 4).toInt ≤ j := j1
          have j2 : (j : Int) < (c.1 2 4 + 1).toInt := j2
          show sml (c.1 3 j)
          rw [show j = (c.1 2 4).toNatClampNeg by omega, hB]
          exact hs'
        · show w.toInt = nv (c.1 3) (c.1 2 4).toNatClampNeg ((c.1 2 4 + 1).toNatClampNeg - (c.1 2 4).toNatClampNeg)
          rw [show (c.1 2 4 + 1).toNatClampNeg - (c.1 2 4).toNatClampNeg = 0 + 1 by omega, V]
          unfold nv nv
          rw [if_pos (by omega), Nat.add_zero, hB]
          omega
      obtain ⟨r1, r2, r3, r4⟩ := nm_loop g h1 h2
      exact ⟨r1, r2, Or.inl ⟨r3, fun _ => r4⟩⟩
    · rw [if_pos (is_sml.mpr hs)] at h1
      have hs' := hs
      unfold sml at hs
      rw [if_pos ((in_0 (a := 97) (b := 122) rfl rfl).mpr (by rw [ba]; split <;> omega))] at h2
      by_cases hf : fig B
      · rw [if_neg (fun q => (is_fig.mp q) hf)] at h1
        have hf' := hf
        unfold fig at hf
        rw [if_pos (by omega)] at ba
        rw [if_neg (fun q => ((in_0 (a := 48) (b := 57) rfl rfl).mp q) (by rw [ba]; exact hf))] at h2
        rw [l182_eq] at h2
        have zz : d_X10_byteAt 82 ((mM1 m).1 82 17) (mM1 m) = z := hz
        rw [zz, if_neg (fun q => ((in_0 (a := 48) (b := 57) rfl rfl).mp q) (by rw [ba]; exact hf)), l182_eq] at h2
        have s17 : (dc_wi (mM1 m) 82 17 ((mM1 m).1 82 17 + 1)).1 82 17 = c.1 2 4 + 1 := by rw [n3]; rfl
        have T1 : tp c (dc_wi (mM1 m) 82 17 ((mM1 m).1 82 17 + 1)) := t.fr fc.rf (((fm.rf.w (by omega)).w (by omega)).w (by omega))
        rw [s17] at h2
        have D1 : fm m0 (dc_wi (mM1 m) 82 17 ((mM1 m).1 82 17 + 1)) := B1.w (by omega)
        -- one figure
        have one : e = dc_wi (cM2 c) 2 5 2 → ¬ (48 ≤ (d_X10_byteAt 82 (c.1 2 4 + 1) (dc_wi (mM1 m) 82 17 ((mM1 m).1 82 17 + 1))).toInt ∧ (d_X10_byteAt 82 (c.1 2 4 + 1) (dc_wi (mM1 m) 82 17 ((mM1 m).1 82 17 + 1))).toInt ≤ 57) → tkE c0 m0 e e' := fun he hn => by
          rw [if_pos ((in_0 (a := 48) (b := 57) rfl rfl).mpr hn)] at h2
          have h2 : (if (m.1 82 17 + 1 - m.1 82 17).toInt ≤ 1 then some (dc_wi (dc_wi (dc_wi (mM1 m) 82 17 ((mM1 m).1 82 17 + 1)) 82 20 (z - 48)) 82 19 2) else _) = some e' := h2
          rw [← n3, sub_i ⟨by omega, by omega⟩ ⟨n4, by omega⟩, if_pos (by omega)] at h2
          cases h2
          subst he
          refine ⟨A2.w (by omega), (D1.w (by omega)).w (by omega), Or.inl ⟨⟨⟨n1, n2, show c.1 2 4 + 1 = m.1 82 17 + 1 by rw [n3], ?_, ?_⟩, n3, rfl, n4, ?_, Or.inr (Or.inr (Or.inl ⟨rfl, ?_, ?_⟩))⟩, fun _ => ?_⟩⟩
          · show 0 ≤ (c.1 2 4 + 1).toInt
            omega
          · show (c.1 2 4 + 1).toInt ≤ (c.1 2 1).toInt
            omega
          · show (c.1 2 4).toInt ≤ (c.1 2 4 + 1).toInt
            omega
          · show fig (c.1 3 (c.1 2 4).toNatClampNeg)
            rw [hB]
            exact hf'
          · show (z - 48).toInt = (c.1 3 (c.1 2 4).toNatClampNeg).toInt - 48
            rw [hB, Int32.toInt_sub, show (48 : Int32).toInt = 48 from rfl, sx_bm (by omega) (by omega), ba]
          · show (c0.1 2 4).toInt < (c.1 2 4 + 1).toInt
            omega
        by_cases hq : (c.1 2 1).toInt ≤ (c.1 2 4 + 1).toInt
        · rw [if_pos hq] at h1
          cases h1
          exact one rfl (by rw [ba_out T1 hq]; decide)
        · rw [if_neg hq] at h1
          have ba1 := ba_in T1 (p := c.1 2 4 + 1) (by omega) (by omega)
          have bb1 := t.b (p := c.1 2 4 + 1) (by omega) (by omega)
          by_cases hg : fig (c.1 3 (c.1 2 4 + 1).toNatClampNeg)
          · rw [if_neg (fun q => (is_fig.mp q) hg)] at h1
            cases h1
            unfold fig at hg
            rw [if_pos (by omega)] at ba1
            rw [if_neg (fun q => ((in_0 (a := 48) (b := 57) rfl rfl).mp q) (by rw [ba1]; exact hg))] at h2
            have i2 : (c.1 2 4 + 1 + 1).toInt = (c.1 2 4).toInt + 2 := by rw [i1 (by omega) (by omega)]; omega
            obtain ⟨f1, f2, f3⟩ := fg_more (m0 := m0) (m := dc_wi (dc_wi (mM1 m) 82 17 ((mM1 m).1 82 17 + 1)) 82 17 (c.1 2 4 + 1 + 1)) (p := c.1 2 4) ⟨n4, by omega⟩ (by rw [← y.1 82 13 (by omega), ← t.1]; exact tl) (D1.w (by omega)) (show m.1 82 15 = 0 from n2) (show m.1 82 17 = c.1 2 4 from n3.symm) (by show (c.1 2 4).toInt + 2 ≤ (c.1 2 4 + 1 + 1).toInt ∧ (c.1 2 4 + 1 + 1).toInt ≤ 240; omega) h2
            have r0 := rf_0 (c := dc_wi (cM2 c) 2 5 2) (w := 1) (a := c.1 2 4) n1
            rw [r0]
            refine ⟨(((A2.w (by omega)).w (by omega)).w (by omega)).w (by omega), f1, Or.inr ⟨by show 0 < (1 : Int32).toInt; decide, f2.symm, f3.symm⟩⟩
          · rw [if_pos (is_fig.mpr hg)] at h1
            cases h1
            unfold fig at hg
            exact one rfl (by rw [ba1]; split <;> omega)
      · rw [if_pos (is_fig.mpr hf)] at h1
        unfold fig at hf
        rw [if_pos ((in_0 (a := 48) (b := 57) rfl rfl).mpr (by rw [ba]; split <;> omega))] at h2
        have sg : 0 ≤ B.toInt → e = dc_wi (cM2 c) 2 5 3 → e' = mM4 m z → tkE c0 m0 e e' := fun h0 he he' => by
          rw [if_pos h0] at ba
          subst he he'
          refine ⟨A2.w (by omega), B4, Or.inl ⟨⟨⟨n1, n2, show c.1 2 4 + 1 = m.1 82 17 + 1 by rw [n3], ?_, ?_⟩, n3, rfl, n4, ?_, Or.inr (Or.inr (Or.inr ⟨rfl, ?_, ?_⟩))⟩, fun _ => ?_⟩⟩
          · show 0 ≤ (c.1 2 4 + 1).toInt
            omega
          · show (c.1 2 4 + 1).toInt ≤ (c.1 2 1).toInt
            omega
          · show (c.1 2 4).toInt ≤ (c.1 2 4 + 1).toInt
            omega
          · show 0 ≤ (c.1 3 (c.1 2 4).toNatClampNeg).toInt ∧ (c.1 3 (c.1 2 4).toNatClampNeg).toInt ≤ 127
            rw [hB]
            omega
          · show z = c.1 3 (c.1 2 4).toNatClampNeg
            rw [hB]
            exact Int32.toInt_inj.mp ba
          · show (c0.1 2 4).toInt < (c.1 2 4 + 1).toInt
            omega
        have hv : ∀ k : Int, 0 ≤ k → k ≤ 127 → (B.toInt = k ↔ z.toInt = k) := fun k k0 k1 => by
          rw [ba]
          split <;> omega
        by_cases s1 : B.toInt = 43
        · rw [if_pos s1] at h1
          rw [if_pos ((hv 43 (by decide) (by decide)).mp s1)] at h2
          cases h1
          cases h2
          exact sg (by omega) rfl rfl
        rw [if_neg s1] at h1
        rw [if_neg (fun q => s1 ((hv 43 (by decide) (by decide)).mpr q))] at h2
        by_cases s2 : B.toInt = 45
        · rw [if_pos s2] at h1
          rw [if_pos ((hv 45 (by decide) (by decide)).mp s2)] at h2
          cases h1
          cases h2
          exact sg (by omega) rfl rfl
        rw [if_neg s2] at h1
        rw [if_neg (fun q => s2 ((hv 45 (by decide) (by decide)).mpr q))] at h2
        by_cases s3 : B.toInt = 47
        · rw [if_pos s3] at h1
          rw [if_pos ((hv 47 (by decide) (by decide)).mp s3)] at h2
          cases h1
          cases h2
          exact sg (by omega) rfl rfl
        rw [if_neg s3] at h1
        rw [if_neg (fun q => s3 ((hv 47 (by decide) (by decide)).mpr q))] at h2
        by_cases s4 : B.toInt = 62
        · rw [if_pos s4] at h1
          rw [if_pos ((hv 62 (by decide) (by decide)).mp s4)] at h2
          cases h1
          cases h2
          exact sg (by omega) rfl rfl
        rw [if_neg s4] at h1
        rw [if_neg (fun q => s4 ((hv 62 (by decide) (by decide)).mpr q))] at h2
        by_cases s5 : B.toInt = 59
        · rw [if_neg (fun q => q s5)] at h1
          rw [if_pos ((hv 59 (by decide) (by decide)).mp s5)] at h2
          cases h1
          cases h2
          exact sg (by omega) rfl rfl
        rw [if_pos s5] at h1
        rw [if_neg (fun q => s5 ((hv 59 (by decide) (by decide)).mpr q))] at h2
        cases h1
        cases h2
        obtain ⟨f1, f2, f3⟩ := ft_mk (c := cM2 c) (m := mM4 m z) (w := 1) (a := c.1 2 4) (b := (mM4 m z).1 82 18) n1 n2 (by decide) n3
        exact ⟨A2.tr f2, B4.tr f3, Or.inr f1⟩
  · rw [if_neg hp] at h1
    rw [if_neg (by rw [← hz, ← n3, ba_out t (by omega)]; decide)] at h2
    cases h1
    cases h2
    exact ⟨A0.w (by omega), B1.w (by omega), Or.inl ⟨⟨⟨n1, n2, n3, n4, n5⟩, n3, rfl, n4, Int.le_refl _, Or.inl rfl⟩, fun q => absurd rfl q⟩⟩
/-- reading a token on both sides -/
theorem take_next {c m e e' : dc_M} (t : tp c m) (n : nf c m) (h1 : d_X4_take 2 c = some e) (h2 : d_X10_next 82 m = some e') : tkE c m e e' := by
  unfold d_X4_take at h1
  rw [if_pos (by rw [n.1]; rfl)] at h1
  unfold d_X10_next at h2
  rw [if_pos (by rw [n.2.1]; decide)] at h2
  unfold d_X4_take_l8 at h1
  unfold d_X10_next_l8 at h2
  refine dc_lp_sim (skI c m) (tkE c m) (fun s u x y hg hf hk => ?_) ⟨t, fc.rf, fm.rf, n, Int.le_refl _⟩ h1 h2
  have hg0 := hg
  obtain ⟨t1, x1, y1, n, pr⟩ := hg
  obtain ⟨n1, n2, n3, n4, n5⟩ := n
  have tl := t1.2.2.1
  unfold d_X4_take_l8s d_X4_take_l8b at hf
  unfold d_X10_next_l8s d_X10_next_l8b at hk
  -- the end of the blanks
  have fin : ∀ {a : dc_M ⊕ dc_M} {b : dc_M ⊕ dc_M}, (d_X4_take_b46 2 s).map (fun z => Sum.inr z) = some a → (d_X10_next_b34 82 u).map (fun z => Sum.inr z) = some b → (∃ s' t', a = .inl s' ∧ b = .inl t' ∧ skI c m s' t') ∨ (∃ e e', a = .inr e ∧ b = .inr e' ∧ tkE c m e e') := fun {a b} ha hb => by
    cases h1 : d_X4_take_b46 2 s with
    | none => rw [h1] at ha; cases ha
    | some q =>
      cases h2 : d_X10_next_b34 82 u with
      | none => rw [h2] at hb; cases hb
      | some q' =>
        rw [h1] at ha
        rw [h2] at hb
        cases ha
        cases hb
        exact Or.inr ⟨_, _, rfl, rfl, tk_46 hg0 h1 h2⟩
  by_cases hp : (s.1 2 1).toInt ≤ (s.1 2 4).toInt
  · rw [if_pos hp] at hf
    rw [if_pos (by rw [← n3, ba_out t1 hp]; decide)] at hk
    exact fin hf hk
  · rw [if_neg hp, show 2 + 1 = 3 from rfl] at hf
    have bb := t1.b n4 (by omega)
    have ba := ba_in t1 n4 (show (s.1 2 4).toInt < (s.1 2 1).toInt by omega)
    rw [n3] at ba
    by_cases hs : (s.1 3 (s.1 2 4).toNatClampNeg).toInt = 32
    · rw [if_neg (fun q => q hs)] at hf
      rw [← n3, hs, if_pos (by decide), n3] at ba
      rw [if_neg (fun q => q ba)] at hk
      cases hf
      cases hk
      have e1 : (s.1 2 4 + 1).toInt = (s.1 2 4).toInt + 1 := i1 (by omega) (by omega)
      refine Or.inl ⟨_, _, rfl, rfl, t1.fr (fc.rf.w (by omega)) (fm.rf.w (by omega)), x1.w (by omega), y1.w (by omega), ⟨n1, n2, ?_, ?_, ?_⟩, ?_⟩
      · show s.1 2 4 + 1 = u.1 82 17 + 1
        rw [n3]
      · show 0 ≤ (s.1 2 4 + 1).toInt
        omega
      · show (s.1 2 4 + 1).toInt ≤ (s.1 2 1).toInt
        omega
      · show (c.1 2 4).toInt ≤ (s.1 2 4 + 1).toInt
        omega
    · rw [if_pos hs] at hf
      rw [if_pos (by rw [ba, ← n3]; split <;> omega)] at hk
      exact fin hf hk
