/-! ===== states: where a marking is found ===== -/
def hsI (t : Int32) : Int32 := ((t * (-1640531535 : Int32)).toUInt32 >>> ((23 : Int32).toUInt32 &&& Int32.toUInt32 31)).toInt32
theorem hsI_b (t : Int32) : 0 ≤ (hsI t).toInt ∧ (hsI t).toInt < 512 := by
  unfold hsI
  generalize (t * (-1640531535 : Int32)).toUInt32 = u
  rw [show ((23 : Int32).toUInt32 &&& Int32.toUInt32 31) = (23 : UInt32) from by decide]
  have h1 : (u >>> (23 : UInt32)).toNat < 512 := by
    rw [UInt32.toNat_shiftRight, show (23 : UInt32).toNat % 32 = 23 from rfl, Nat.shiftRight_eq_div_pow]
    have := u.toNat_lt
    omega
  have h2 : ((u >>> (23 : UInt32)).toInt32).toInt = (u >>> (23 : UInt32)).toBitVec.toInt := rfl
  have h3 : (u >>> (23 : UInt32)).toBitVec.toNat = (u >>> (23 : UInt32)).toNat := rfl
  rw [h2, BitVec.toInt_eq_toNat_cond, h3]
  rw [if_pos (by omega)]
  omega
theorem a511 (x : Int32) : (x &&& 511).toInt = x.toInt % 512 := by
  have h0 : (x &&& 511).toBitVec.toNat = x.toBitVec.toNat % 512 := by
    rw [Int32.toBitVec_and, BitVec.toNat_and]
    exact Nat.and_two_pow_sub_one_eq_mod _ 9
  have h1 : (x &&& 511).toInt = (x &&& 511).toBitVec.toInt := rfl
  have h2 : x.toInt = x.toBitVec.toInt := rfl
  rw [h1, h2, BitVec.toInt_eq_toNat_cond, BitVec.toInt_eq_toNat_cond, h0]
  have := x.toBitVec.isLt
  split <;> split <;> omega
theorem sx_zs_0 {f : Nat → Int32} : ∀ m, (∀ k, k < m → (f k).toInt ≠ 0) → sx_zs f m = 0
  | 0, _ => rfl
  | m + 1, h => by
    unfold sx_zs
    rw [if_neg (fun q => h m (by omega) (by rw [q]; rfl)), sx_zs_0 m (fun k hk => h k (by omega))]
def HTI (f g : Nat → Int32) (n : Nat) : Prop := (∀ k, k < 512 → 0 ≤ (f k).toInt ∧ (f k).toInt ≤ n) ∧ (∀ s, s < n → ∃ d, d < 512 ∧ (f (((hsI (g s)).toNatClampNeg + d) % 512)).toInt = s + 1 ∧ ∀ e, e < d → (f (((hsI (g s)).toNatClampNeg + e) % 512)).toInt ≠ 0) ∧ 512 ≤ sx_zs f 512 + n
theorem upd_s {f : Nat → Int32} {j : Nat} {x : Int32} : upd f j x j = x := if_pos rfl
theorem upd_n {f : Nat → Int32} {j k : Nat} {x : Int32} (h : k ≠ j) : upd f j x k = f k := if_neg h
theorem wi_upd {m : dc_M} {a k : Nat} {v : Int32} : (dc_wi m a k v).1 a = upd (m.1 a) k v := by
  funext j
  by_cases h : j = k
  · rw [h, wi_s, upd_s]
  · rw [wi_k (by omega), upd_n h]
/-- a new marking finds its place -/
theorem HTI.add {f g : Nat → Int32} {n k : Nat} {t : Int32} (H : HTI f g n) (hn : n < 200) (hk : k < 512) (h0 : (f (((hsI t).toNatClampNeg + k) % 512)).toInt = 0) (hb : ∀ e, e < k → (f (((hsI t).toNatClampNeg + e) % 512)).toInt ≠ 0) : HTI (upd f (((hsI t).toNatClampNeg + k) % 512) (Int32.ofNat (n + 1))) (upd g n t) (n + 1) := by
  obtain ⟨H1, H2, H3⟩ := H
  have en : (Int32.ofNat (n + 1)).toInt = n + 1 := by rw [mk_i (by omega)]; omega
  generalize hp : ((hsI t).toNatClampNeg + k) % 512 = p at h0
  have hp5 : p < 512 := by omega
  have nz : ∀ j, (f j).toInt ≠ 0 → (upd f p (Int32.ofNat (n + 1)) j).toInt ≠ 0 := fun j hj => by
    by_cases e : j = p
    · rw [e, upd_s, en]; omega
    · rw [upd_n e]; exact hj
  refine ⟨fun j hj => ?_, fun s hs => ?_, ?_⟩
  · by_cases e : j = p
    · rw [e, upd_s, en]; omega
    · rw [upd_n e]
      have := H1 j hj
      omega
  · by_cases e : s = n
    · rw [e, upd_s]
      exact ⟨k, hk, by rw [hp, upd_s, en], fun e he => nz _ (hb e he)⟩
    · obtain ⟨d, d1, d2, d3⟩ := H2 s (by omega)
      rw [upd_n e]
      refine ⟨d, d1, ?_, fun e he => nz _ (d3 e he)⟩
      rw [upd_n (fun q => by rw [q] at d2; omega)]
      exact d2
  · have q := sx_zs_upd (f := f) (j := p) (x := Int32.ofNat (n + 1)) (Int32.toInt_inj.mp h0) (fun q => by have := congrArg Int32.toInt q; rw [en] at this; have e0 : (0 : Int32).toInt = 0 := rfl; omega) (m := 512) hp5
    omega
/-- a new state's memory -/
def meM (x : Nat) (c : dc_M) (p : Nat) (t ch : Int32) : dc_M := dc_wi (dc_wi (dc_wi (dc_wi c (x + 1) (c.1 x 0).toNatClampNeg t) (x + 3) (c.1 x 0).toNatClampNeg ch) (x + 6) p (c.1 x 0 + 1)) x 0 (c.1 x 0 + 1)
theorem me_65 {x : Nat} {t ch y : Int32} {c : dc_M} (hx : x = 4 ∨ x = 63) : d_X7_meet_b65 x t ch y c = if (c.1 x 0).toInt < 200 then some (c.1 x 0, meM x c y.toNatClampNeg t ch) else some (-4, c) := by
  rcases hx with rfl | rfl
  · rfl
  · rfl
theorem me_run {x : Nat} {t ch : Int32} {c : dc_M} {z : Int32 × dc_M} {n : Nat} (hx : x = 4 ∨ x = 63) (hn : (c.1 x 0).toInt = n) (h200 : n ≤ 200) (H : HTI (c.1 (x + 6)) (c.1 (x + 1)) n) (h : d_X7_meet x t ch c = some z) : (∃ s, s < n ∧ c.1 (x + 1) s = t ∧ z = (Int32.ofNat s, c)) ∨ ((∀ s, s < n → c.1 (x + 1) s ≠ t) ∧ ((n = 200 ∧ z = (-4, c)) ∨ (n < 200 ∧ ∃ p, p < 512 ∧ z = (c.1 x 0, meM x c p t ch) ∧ HTI (upd (c.1 (x + 6)) p (Int32.ofNat (n + 1))) (upd (c.1 (x + 1)) n t) (n + 1)))) := by
  have H0 := H
  obtain ⟨H1, H2, H3⟩ := H
  unfold d_X7_meet d_X7_meet_l11 at h
  have h : dc_lp (d_X7_meet_l11s x t ch c) (hsI t, 0) = some z := h
  obtain ⟨b0, b1⟩ := hsI_b t
  have hN := cl_n b0
  generalize hN' : (hsI t).toNatClampNeg = N at hN
  generalize hf : c.1 (x + 6) = f at H0 H1 H2 H3
  generalize hg : c.1 (x + 1) = g at H0 H2
  refine dc_lp_inv (f := d_X7_meet_l11s x t ch c) (s := (hsI t, 0)) (fun s : Int32 × Int32 => 0 ≤ s.2.toInt ∧ s.2.toInt ≤ 512 ∧ 0 ≤ s.1.toInt ∧ s.1.toInt = ((N : Int) + s.2.toInt) % 512 ∧ ∀ e : Nat, (e : Int) < s.2.toInt → (f ((N + e) % 512)).toInt ≠ 0 ∧ g ((f ((N + e) % 512)).toInt - 1).toNat ≠ t) (fun z => (∃ s, s < n ∧ g s = t ∧ z = (Int32.ofNat s, c)) ∨ ((∀ s, s < n → g s ≠ t) ∧ ((n = 200 ∧ z = (-4, c)) ∨ (n < 200 ∧ ∃ p, p < 512 ∧ z = (c.1 x 0, meM x c p t ch) ∧ HTI (upd f p (Int32.ofNat (n + 1))) (upd g n t) (n + 1))))) (fun s s' hI hs => ?_) (fun s e hI hs => ?_) ⟨show 0 ≤ (0 : Int32).toInt by decide, show (0 : Int32).toInt ≤ 512 by decide, b0, ?_, fun e he => ?_⟩ h
  · obtain ⟨y, k⟩ := s
    obtain ⟨k0, k5, y0, yk, hb⟩ := hI
    have k0 : 0 ≤ k.toInt := k0
    have k5 : k.toInt ≤ 512 := k5
    have y0 : 0 ≤ y.toInt := y0
    have yk : y.toInt = ((N : Int) + k.toInt) % 512 := yk
    have hb : ∀ e : Nat, (e : Int) < k.toInt → (f ((N + e) % 512)).toInt ≠ 0 ∧ g ((f ((N + e) % 512)).toInt - 1).toNat ≠ t := hb
    have hs : d_X7_meet_l11b x t ch y k c = some (.inl s') := hs
    unfold d_X7_meet_l11b at hs
    rw [hf, hg] at hs
    have hk := cl_n k0
    have hy := cl_n y0
    have ey : y.toNatClampNeg = (N + k.toNatClampNeg) % 512 := by omega
    by_cases c1 : 512 ≤ k.toInt
    · rw [if_pos c1] at hs
      cases hz : d_X7_meet_b65 x t ch y c with
      | none => rw [hz] at hs; cases hs
      | some q => rw [hz] at hs; cases hs
    · rw [if_neg c1] at hs
      have v := H1 y.toNatClampNeg (by omega)
      have v1 : (f y.toNatClampNeg - 1).toInt = (f y.toNatClampNeg).toInt - 1 := by rw [Int32.toInt_sub, show (1 : Int32).toInt = 1 from rfl, sx_bm (by omega) (by omega)]
      have v2 : (f y.toNatClampNeg - 1).toNatClampNeg = ((f y.toNatClampNeg).toInt - 1).toNat := by
        show (f y.toNatClampNeg - 1).toInt.toNat = _
        rw [v1]
      rw [v1, v2] at hs
      by_cases c2 : 0 ≤ (f y.toNatClampNeg).toInt - 1
      · rw [if_pos c2] at hs
        by_cases c3 : (g ((f y.toNatClampNeg).toInt - 1).toNat).toInt = t.toInt
        · rw [if_neg (fun q => q c3)] at hs
          cases hs
        · rw [if_pos c3] at hs
          cases hs
          have p1 : (k + 1).toInt = k.toInt + 1 := i1 (by omega) (Int32.le_toInt _)
          have p2 : (y + 1).toInt = y.toInt + 1 := i1 (by omega) (Int32.le_toInt _)
          refine ⟨by show 0 ≤ (k + 1).toInt; omega, by show (k + 1).toInt ≤ 512; omega, ?_, ?_, fun e he => ?_⟩
          · show 0 ≤ ((y + 1) &&& 511).toInt
            rw [a511]; omega
          · show ((y + 1) &&& 511).toInt = ((N : Int) + (k + 1).toInt) % 512
            rw [a511, p1, p2, yk]; omega
          · have he : (e : Int) < (k + 1).toInt := he
            by_cases c4 : (e : Int) < k.toInt
            · exact hb e c4
            · have ee : e = k.toNatClampNeg := by omega
              rw [ee, ← ey]
              exact ⟨by omega, fun q => c3 (congrArg Int32.toInt q)⟩
      · rw [if_neg c2] at hs
        cases hz : d_X7_meet_b65 x t ch y c with
        | none => rw [hz] at hs; cases hs
        | some q => rw [hz] at hs; cases hs
  · obtain ⟨y, k⟩ := s
    obtain ⟨k0, k5, y0, yk, hb⟩ := hI
    have k0 : 0 ≤ k.toInt := k0
    have k5 : k.toInt ≤ 512 := k5
    have y0 : 0 ≤ y.toInt := y0
    have yk : y.toInt = ((N : Int) + k.toInt) % 512 := yk
    have hb : ∀ e : Nat, (e : Int) < k.toInt → (f ((N + e) % 512)).toInt ≠ 0 ∧ g ((f ((N + e) % 512)).toInt - 1).toNat ≠ t := hb
    have hs : d_X7_meet_l11b x t ch y k c = some (.inr e) := hs
    unfold d_X7_meet_l11b at hs
    rw [hf, hg] at hs
    have hk := cl_n k0
    have hy := cl_n y0
    have ey : y.toNatClampNeg = (N + k.toNatClampNeg) % 512 := by omega
    by_cases c1 : 512 ≤ k.toInt
    · exfalso
      have q := sx_zs_0 (f := f) 512 (fun j hj => by
        have h1 := (hb ((j + 512 - N % 512) % 512) (by omega)).1
        rw [show (N + (j + 512 - N % 512) % 512) % 512 = j by omega] at h1
        exact h1)
      omega
    · rw [if_neg c1] at hs
      have v := H1 y.toNatClampNeg (by omega)
      have v1 : (f y.toNatClampNeg - 1).toInt = (f y.toNatClampNeg).toInt - 1 := by rw [Int32.toInt_sub, show (1 : Int32).toInt = 1 from rfl, sx_bm (by omega) (by omega)]
      have v2 : (f y.toNatClampNeg - 1).toNatClampNeg = ((f y.toNatClampNeg).toInt - 1).toNat := by
        show (f y.toNatClampNeg - 1).toInt.toNat = _
        rw [v1]
      rw [v1, v2] at hs
      by_cases c2 : 0 ≤ (f y.toNatClampNeg).toInt - 1
      · rw [if_pos c2] at hs
        by_cases c3 : (g ((f y.toNatClampNeg).toInt - 1).toNat).toInt = t.toInt
        · rw [if_neg (fun q => q c3)] at hs
          cases hs
          refine Or.inl ⟨((f y.toNatClampNeg).toInt - 1).toNat, by omega, Int32.toInt_inj.mp c3, ?_⟩
          rw [show f y.toNatClampNeg - 1 = Int32.ofNat ((f y.toNatClampNeg).toInt - 1).toNat from Int32.toInt_inj.mp (by rw [v1, mk_i (by omega)]; omega)]
        · rw [if_pos c3] at hs
          cases hs
      · rw [if_neg c2, me_65 hx] at hs
        have f0 : (f y.toNatClampNeg).toInt = 0 := by omega
        have no : ∀ s, s < n → g s ≠ t := fun s hs' q => by
          obtain ⟨d, d1, d2, d3⟩ := H2 s hs'
          rw [q, hN'] at d2 d3
          rcases Nat.lt_trichotomy d k.toNatClampNeg with g1 | g1 | g1
          · have := (hb d (by omega)).2
            rw [d2, show ((s : Int) + 1 - 1).toNat = s by omega] at this
            exact this q
          · rw [g1, ← ey] at d2
            omega
          · have := d3 k.toNatClampNeg g1
            rw [← ey] at this
            exact this f0
        refine Or.inr ⟨no, ?_⟩
        by_cases c4 : (c.1 x 0).toInt < 200
        · rw [if_pos c4] at hs
          cases hs
          refine Or.inr ⟨by omega, y.toNatClampNeg, by omega, rfl, ?_⟩
          have r := HTI.add (k := k.toNatClampNeg) (t := t) H0 (by omega) (by omega) (by rw [hN', ← ey]; exact f0) (fun e he => by rw [hN']; exact (hb e (by omega)).1)
          rw [hN', ← ey] at r
          exact r
        · rw [if_neg c4] at hs
          cases hs
          exact Or.inl ⟨by omega, rfl⟩
  · show (hsI t).toInt = ((N : Int) + (0 : Int32).toInt) % 512
    rw [show (0 : Int32).toInt = 0 from rfl]
    omega
  · have he : (e : Int) < (0 : Int32).toInt := he
    rw [show (0 : Int32).toInt = 0 from rfl] at he
    omega
