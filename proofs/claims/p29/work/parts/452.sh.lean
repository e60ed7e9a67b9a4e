/-! ===== the sheets of both sides ===== -/
theorem di_lt {x y : Int64} : (lg_cmp x y).toInt < 0 ↔ x.toInt < y.toInt := (ab_cd_i .lt (lg_cmp x y) 0).symm.trans (ab_cd_l .lt x y)
theorem di_gt {x y : Int64} : 0 < (lg_cmp x y).toInt ↔ y.toInt < x.toInt := (ab_cd_i .gt (lg_cmp x y) 0).symm.trans (ab_cd_l .gt x y)
theorem di_in {x y w : Int64} {m : dc_M} : d_X10_in x y w m = if y.toInt ≤ x.toInt ∧ x.toInt ≤ w.toInt then 1 else 0 := by
  unfold d_X10_in
  by_cases h1 : x.toInt < y.toInt
  · rw [if_pos (di_lt.mpr h1), if_neg (by omega)]
  · rw [if_neg (fun q => h1 (di_lt.mp q))]
    by_cases h2 : w.toInt < x.toInt
    · rw [if_pos (di_gt.mpr h2), if_neg (by omega)]
    · rw [if_neg (fun q => h2 (di_gt.mp q)), if_pos (by omega)]
theorem di_il {x : Int32} : (Int32.toInt64 x).toInt = x.toInt := Int32.toInt_toInt64 x
theorem di_ine {p : Prop} [Decidable p] : ((if p then (1 : Int32) else 0).toInt = 0) ↔ ¬ p := by
  by_cases h : p
  · rw [if_pos h]; exact ⟨fun q => absurd q (by decide), fun q => absurd h q⟩
  · rw [if_neg h]; exact ⟨fun _ => h, fun _ => by decide⟩
theorem wi_1 {m : dc_M} {a k b j : Nat} {v : Int32} : (dc_wi m a k v).1 b j = if b = a ∧ j = k then v else m.1 b j := rfl
theorem wi_o {m : dc_M} {a k b j : Nat} {v : Int32} (h : ¬ b = a) : (dc_wi m a k v).1 b j = m.1 b j := if_neg (fun z => h z.1)
/-- filling touches one cell -/
theorem fill_o {a : Nat} {v : Int32} {m m' : dc_M} (h : d_J7_fill_53178 a v m = some m') : ∀ b, b ≠ a → ∀ k, m'.1 b k = m.1 b k := by
  unfold d_J7_fill_53178 d_J7_fill_53178_l5 at h
  refine dc_lp_inv (fun s => ∀ b, b ≠ a → ∀ k, s.2.1 b k = m.1 b k) (fun e => ∀ b, b ≠ a → ∀ k, e.1 b k = m.1 b k) (fun s s' hI e => ?_) (fun s e' hI e => ?_) (fun b _ k => rfl) h
  · unfold d_J7_fill_53178_l5s d_J7_fill_53178_l5b at e
    split at e
    · cases e
    · cases e
      intro b hb k
      exact (wi_o hb).trans (hI b hb k)
  · unfold d_J7_fill_53178_l5s d_J7_fill_53178_l5b at e
    split at e
    · cases e
      exact hI
    · cases e
def sh_r (c a b : Int32) : Prop := (c.toInt = -1 ∧ a.toInt = -4) ∨ (c = b ∧ a.toInt ≠ -4 ∧ 0 ≤ b.toInt ∧ b.toInt ≤ 64)
def sh_R (h : ab_H) : Prop := ∀ j, j < 4 → sh_r ((dc_vw h).1 (74 + 2 * j) 0) ((dc_vw h).1 117 j) ((dc_vw h).1 118 j)
def sh_D : List Nat := [9472, 9728, 9984, 10240, 15103, 15231]
theorem sh_c {mo : List Nat} (hD : sh_D.all (fun k => !mo.contains k) = true) {k : Nat} (hk : k ∈ sh_D) : mo.contains k = false := by
  have q := List.all_eq_true.mp hD k hk
  cases hc : mo.contains k with
  | false => rfl
  | true => rw [hc] at q; cases q
section SH
variable {z L d : Nat} {xs : Nat → Int32} {h h' : ab_H} {Q : Option Value → ab_H → Prop}
theorem sh_cl {j : Nat} (hj : j < 4) : ∃ fs, sx_cel sx_SP (74 + 2 * j) = some (.inr (6, fs)) := by
  rcases (show j = 0 ∨ j = 1 ∨ j = 2 ∨ j = 3 by omega) with rfl | rfl | rfl | rfl <;> exact ⟨_, rfl⟩
theorem sh_si {mo : List Nat} (hfr : sx_fr mo h h') (hh : sx_h sx_SP z L xs h) (hh' : sx_h sx_SP z L xs h') {j : Nat} (hj : j < 4) (hm : mo.contains ((74 + 2 * j) * 128 + 0) = false) : (dc_vw h').1 (74 + 2 * j) 0 = (dc_vw h).1 (74 + 2 * j) 0 := by
  obtain ⟨fs, hc⟩ := sh_cl hj
  exact gd_fi hfr hh hh' hc hm (by decide)
theorem sh_117 {mo : List Nat} (hfr : sx_fr mo h h') (hh : sx_h sx_SP z L xs h) (hh' : sx_h sx_SP z L xs h') (hm : mo.contains 15103 = false) (j : Nat) : (dc_vw h').1 117 j = (dc_vw h).1 117 j := gd_fa (c := 117) hfr hh hh' rfl (by decide) (by decide) hm j
theorem sh_118 {mo : List Nat} (hfr : sx_fr mo h h') (hh : sx_h sx_SP z L xs h) (hh' : sx_h sx_SP z L xs h') (hm : mo.contains 15231 = false) (j : Nat) : (dc_vw h').1 118 j = (dc_vw h).1 118 j := gd_fa (c := 118) hfr hh hh' rfl (by decide) (by decide) hm j
theorem sh_fr {mo : List Nat} (hD : sh_D.all (fun k => !mo.contains k) = true) (hh : sx_h sx_SP z L xs h) (hh' : sx_h sx_SP z L xs h') (hfr : sx_fr mo h h') (R : sh_R h) : sh_R h' := fun j hj => by
  rw [sh_si hfr hh hh' hj (by rcases (show j = 0 ∨ j = 1 ∨ j = 2 ∨ j = 3 by omega) with rfl | rfl | rfl | rfl <;> exact sh_c hD (by decide)), sh_117 hfr hh hh' (sh_c hD (by decide)), sh_118 hfr hh hh' (sh_c hD (by decide))]
  exact R j hj
theorem sh_40 (hh : sx_h sx_SP z L xs h) {j : Nat} (hj : j < 4) : (dc_vw h).2.2.1 40 j = 74 + 2 * j := by
  rcases (show j = 0 ∨ j = 1 ∨ j = 2 ∨ j = 3 by omega) with rfl | rfl | rfl | rfl <;> exact gd_ra (c := 40) hh rfl (by decide) rfl
/-! ===== lay ===== -/
def sh_an (x1 x2 c : Int32) : Int32 := if 0 ≤ x1.toInt ∧ x1.toInt ≤ 3 then (if c.toInt < 0 then -11 else if 0 ≤ x2.toInt ∧ x2.toInt < c.toInt then 1 else -12) else -1
theorem sh_is {x : Int32} {m : dc_M} : d_X9_isSheet x m = if 0 ≤ x.toInt ∧ x.toInt ≤ 3 then 1 else 0 := by
  unfold d_X9_isSheet
  by_cases h1 : x.toInt < 0
  · rw [if_pos h1, if_neg (by omega)]
  · rw [if_neg h1]
    by_cases h2 : 4 ≤ x.toInt
    · rw [if_pos h2, if_neg (by omega)]
    · rw [if_neg h2, if_pos (by omega)]
theorem sh_ln {x : Int32} {m : dc_M} : d_X9_isLane x m = if 0 ≤ x.toInt ∧ x.toInt ≤ 2 then 1 else 0 := by
  unfold d_X9_isLane
  by_cases h1 : x.toInt < 0
  · rw [if_pos h1, if_neg (by omega)]
  · rw [if_neg h1]
    by_cases h2 : 3 ≤ x.toInt
    · rw [if_pos h2, if_neg (by omega)]
    · rw [if_neg h2, if_pos (by omega)]
theorem sh_cn {x : Int32} (h : 0 ≤ x.toInt ∧ x.toInt ≤ 3) : x.toNatClampNeg < 4 := by
  show x.toInt.toNat < 4
  omega
theorem sh_s1 {c : Int32} (h1 : 0 ≤ c.toInt) (h2 : c.toInt ≤ 64) : (c - 1).toInt = c.toInt - 1 := by
  rw [Int32.toInt_sub, show (1 : Int32).toInt = 1 from rfl, sx_bm (by omega) (by omega)]
theorem sh_lay9 {x1 x2 x3 : Int32} {m : dc_M} (h40 : ∀ j, j < 4 → m.2.2.1 40 j = 74 + 2 * j) (hb : ∀ j, j < 4 → (m.1 (74 + 2 * j) 0).toInt ≤ 64) : (d_X9_lay 1 x1 x2 x3 m).1 = sh_an x1 x2 (m.1 (74 + 2 * x1.toNatClampNeg) 0) := by
  unfold d_X9_lay sh_an
  rw [sh_is]
  by_cases h1 : 0 ≤ x1.toInt ∧ x1.toInt ≤ 3
  · have hj := sh_cn h1
    rw [if_pos (fun q => (di_ine.mp q) h1), if_pos h1, show 1 + 39 = 40 from rfl, h40 _ hj]
    unfold d_X6_isNothing d_X6_hasCells
    have hb1 := hb _ hj
    generalize m.1 (74 + 2 * x1.toNatClampNeg) 0 = c at hb1 ⊢
    by_cases h2 : c.toInt < 0
    · rw [if_neg (show ¬ 0 ≤ c.toInt by omega), if_neg (by decide), if_pos h2]
    · rw [if_pos (show 0 ≤ c.toInt by omega), if_pos (by decide), if_neg h2]
      have e := sh_s1 (c := c) (by omega) hb1
      by_cases h3 : x2.toInt < 0
      · rw [if_pos h3, if_neg (fun q => q (by decide)), if_neg (by omega)]
      · rw [if_neg h3]
        by_cases h4 : (c - 1).toInt < x2.toInt
        · rw [if_pos h4, if_neg (fun q => q (by decide)), if_neg (by omega)]
        · rw [if_neg h4, if_pos (by decide), if_pos (by omega)]
          rfl
  · rw [if_neg (fun q => q (di_ine.mpr h1)), if_neg h1]
theorem sh_lay10 {x1 x2 x3 c : Int32} {m : dc_M} (hr : x1.toNatClampNeg < 4 → sh_r c (m.1 117 x1.toNatClampNeg) (m.1 118 x1.toNatClampNeg)) : (d_X10_lay 82 x1 x2 x3 m).1 = sh_an x1 x2 c := by
  unfold d_X10_lay sh_an
  rw [di_in, di_il, show (0 : Int64).toInt = 0 from rfl, show (3 : Int64).toInt = 3 from rfl]
  by_cases h1 : 0 ≤ x1.toInt ∧ x1.toInt ≤ 3
  · have hj := sh_cn h1
    have r := hr hj
    rw [if_pos (fun q => (di_ine.mp q) h1), if_pos h1, show 82 + 35 = 117 from rfl, show 82 + 36 = 118 from rfl]
    rcases r with ⟨r1, r2⟩ | ⟨r1, r2, r3, r4⟩
    · rw [if_neg (fun q => q r2), if_pos (by omega)]
    · rw [if_pos r2, r1, if_neg (show ¬ (m.1 118 x1.toNatClampNeg).toInt < 0 by omega), di_in, di_il, di_il, show (0 : Int64).toInt = 0 from rfl, sh_s1 r3 r4]
      by_cases h3 : 0 ≤ x2.toInt ∧ x2.toInt ≤ (m.1 118 x1.toNatClampNeg).toInt - 1
      · rw [if_pos (fun q => (di_ine.mp q) h3), if_pos (show 0 ≤ x2.toInt ∧ x2.toInt < (m.1 118 x1.toNatClampNeg).toInt by omega)]
        split
        · split <;> rfl
        · rfl
      · rw [if_neg (fun q => q (di_ine.mpr h3)), if_neg (show ¬ (0 ≤ x2.toInt ∧ x2.toInt < (m.1 118 x1.toNatClampNeg).toInt) by omega)]
  · rw [if_neg (fun q => q (di_ine.mpr h1)), if_neg h1]
theorem sh_b64 (hh : sx_h sx_SP z L xs h) : ∀ j, j < 4 → ((dc_vw h).1 (74 + 2 * j) 0).toInt ≤ 64 := fun j hj => by
  rcases (show j = 0 ∨ j = 1 ∨ j = 2 ∨ j = 3 by omega) with rfl | rfl | rfl | rfl
  · exact (gd_bi (c := 74) (k := 0) hh rfl rfl).2
  · exact (gd_bi (c := 76) (k := 0) hh rfl rfl).2
  · exact (gd_bi (c := 78) (k := 0) hh rfl rfl).2
  · exact (gd_bi (c := 80) (k := 0) hh rfl rfl).2
def sh_J27 (a b : Nat) (xs : Nat → Int32) (i : Nat) (v1 : Int32) (h1 : ab_H) : Prop := gm a b h1 ∧ sh_R h1 ∧ v1 = sh_an (xs (i + 1)) (xs (i + 2)) ((dc_vw h1).1 (74 + 2 * (xs (i + 1)).toNatClampNeg) 0)
theorem ab_go.imp {d : Nat} {M : ab_M} {pc : Nat} {lv : ab_L} {st : List Value} {P P' : Option Value → ab_H → Prop} (g : ab_go d M pc lv st h P) (k : ∀ r h', P r h' → P' r h') : ab_go d M pc lv st h P' := by
  obtain ⟨n, r, h', e, p⟩ := g
  exact ⟨n, r, h', e, k r h' p⟩
theorem sh_k1 (T : cs_T z L xs) {a b i : Nat} (hd : 999 ≤ d) {K : sx_KK} (hK : sx_mem sx_KT2 K) (h0 : K.1 = 128) (hs : K.2.1 = gs_in 1 [(135, .inr (1, a)), (136, .inr (1, b))] 3) (hdp : K.2.2.2.1 ≤ 999) (hD : sh_D.all (fun k => !K.2.2.1.contains k) = true) (m1 : K.2.2.1.contains 135 = false) (m2 : K.2.2.1.contains 136 = false) (hh : sx_h sx_SP z L xs h) (hm : gm a b h) (R : sh_R h) : ab_go d ab_M_X9_lay 0 [(0, .ref 1), (1, .int (xs (i + 1))), (2, .int (xs (i + 2))), (3, .int (xs (i + 3)))] [] h (fun r h1 => ∃ v1, r = some (.int v1) ∧ sx_h sx_SP z L xs h1 ∧ sh_J27 a b xs i v1 h1) := by
  have hat := gs_at (c := 1) (fs := [(135, .inr (1, a)), (136, .inr (1, b))]) [xs (i + 1), xs (i + 2), xs (i + 3)] hh (gm_f hm)
  have hat : sx_at sx_SP z L xs K.2.1 (fun s => ([xs (i + 1), xs (i + 2), xs (i + 3)].getD (s - 1) 0).toInt) [] [.ref 1, .int (xs (i + 1)), .int (xs (i + 2)), .int (xs (i + 3))] h := by rw [hs]; exact hat
  have g := gd_run (M := ab_M_X9_lay) (d := d) (Q := fun r m' => r = some (.int (d_X9_lay 1 (xs (i + 1)) (xs (i + 2)) (xs (i + 3)) (dc_vw h)).1)) (T K hK) (by rw [h0]; rfl) (by omega) hat (fun N => k_X9_lay (Φ := fun t r m' => r = some (.int t.1)) 1 _ _ _ _ (fun _ _ => rfl) rfl rfl rfl rfl)
  refine g.imp (fun r h1 hp => ?_)
  obtain ⟨p, e⟩ := hp
  obtain ⟨hh1, hfr⟩ := nw_h p
  have R1 := sh_fr hD hh hh1 hfr R
  refine ⟨_, e, hh1, gm_fr hm hfr m1 m2, R1, ?_⟩
  rw [sh_lay9 (fun j hj => sh_40 hh hj) (sh_b64 hh)]
  unfold sh_an
  by_cases h1 : 0 ≤ (xs (i + 1)).toInt ∧ (xs (i + 1)).toInt ≤ 3
  · rw [if_pos h1, if_pos h1]
    have hj := sh_cn h1
    rw [sh_si hfr hh hh1 hj (by rcases (show (xs (i + 1)).toNatClampNeg = 0 ∨ (xs (i + 1)).toNatClampNeg = 1 ∨ (xs (i + 1)).toNatClampNeg = 2 ∨ (xs (i + 1)).toNatClampNeg = 3 by omega) with q | q | q | q <;> (rw [q]; exact sh_c hD (by decide)))]
  · rw [if_neg h1, if_neg h1]
theorem sh_k2 (T : cs_T z L xs) {a b i : Nat} {v1 : Int32} (hd : 999 ≤ d) {K : sx_KK} (hK : sx_mem sx_KT2 K) (h0 : K.1 = 226) (hs : K.2.1 = gs_in 82 [] 3) (hdp : K.2.2.2.1 ≤ 999) (hD : sh_D.all (fun k => !K.2.2.1.contains k) = true) (m1 : K.2.2.1.contains 135 = false) (m2 : K.2.2.1.contains 136 = false) (hmd : cs_md a b) (hh : sx_h sx_SP z L xs h) (J : sh_J27 a b xs i v1 h) : ab_go d ab_M_X10_lay 0 [(0, .ref 82), (1, .int (xs (i + 1))), (2, .int (xs (i + 2))), (3, .int (xs (i + 3)))] [] h (fun r h2 => ∃ v2, r = some (.int v2) ∧ sx_h sx_SP z L xs h2 ∧ ∃ a' b', cs_md a' b' ∧ gm a' b' h2 ∧ sh_R h2 ∧ v1 = v2) := by
  obtain ⟨hm, R, hv⟩ := J
  have hat := gs_at (c := 82) (fs := []) [xs (i + 1), xs (i + 2), xs (i + 3)] hh (fun q hq => by cases hq)
  have hat : sx_at sx_SP z L xs K.2.1 (fun s => ([xs (i + 1), xs (i + 2), xs (i + 3)].getD (s - 1) 0).toInt) [] [.ref 82, .int (xs (i + 1)), .int (xs (i + 2)), .int (xs (i + 3))] h := by rw [hs]; exact hat
  have g := gd_run (M := ab_M_X10_lay) (d := d) (Q := fun r m' => r = some (.int (d_X10_lay 82 (xs (i + 1)) (xs (i + 2)) (xs (i + 3)) (dc_vw h)).1)) (T K hK) (by rw [h0]; rfl) (by omega) hat (fun N => k_X10_lay (Φ := fun t r m' => r = some (.int t.1)) 82 _ _ _ _ (fun _ _ => rfl) rfl rfl rfl rfl)
  refine g.imp (fun r h1 hp => ?_)
  obtain ⟨p, e⟩ := hp
  obtain ⟨hh1, hfr⟩ := nw_h p
  refine ⟨_, e, hh1, a, b, hmd, gm_fr hm hfr m1 m2, sh_fr hD hh hh1 hfr R, ?_⟩
  rw [hv, sh_lay10 (fun hj => R _ hj)]
/-! ===== sheet ===== -/
def sh_ok (x1 x2 x3 : Int32) : Prop := (0 ≤ x1.toInt ∧ x1.toInt ≤ 3) ∧ (0 ≤ x2.toInt ∧ x2.toInt ≤ 2) ∧ 0 ≤ x3.toInt ∧ x3.toInt ≤ 64
theorem sh_sh9 {x1 x2 x3 v : Int32} {m m' : dc_M} (h40 : ∀ j, j < 4 → m.2.2.1 40 j = 74 + 2 * j) (e : d_X9_sheet 1 x1 x2 x3 m = some (v, m')) : (sh_ok x1 x2 x3 ∧ ∀ j, m'.1 (74 + 2 * j) 0 = if j = x1.toNatClampNeg then x3 else m.1 (74 + 2 * j) 0) ∨ (¬ sh_ok x1 x2 x3 ∧ m' = m) := by
  unfold d_X9_sheet at e
  rw [sh_is, sh_ln] at e
  by_cases h1 : 0 ≤ x1.toInt ∧ x1.toInt ≤ 3
  · rw [if_neg (fun q => (di_ine.mp q) h1)] at e
    by_cases h2 : 0 ≤ x2.toInt ∧ x2.toInt ≤ 2
    · rw [if_neg (fun q => (di_ine.mp q) h2)] at e
      by_cases h3 : x3.toInt ≤ 64
      · rw [if_pos h3] at e
        by_cases h4 : 0 ≤ x3.toInt
        · rw [if_pos h4] at e
          refine Or.inl ⟨⟨h1, h2, h4, h3⟩, ?_⟩
          unfold d_X6_renew at e
          rw [show 1 + 39 = 40 from rfl, h40 _ (sh_cn h1)] at e
          generalize hF : d_J7_fill_53178 (74 + 2 * x1.toNatClampNeg + 1) 0 (dc_wi (dc_wi m (74 + 2 * x1.toNatClampNeg) 2 x2) (74 + 2 * x1.toNatClampNeg) 0 x3) = F at e
          cases F with
          | none => cases e
          | some q =>
            have e : some ((1 : Int32), q) = some (v, m') := e
            cases e
            intro j
            rw [fill_o hF (74 + 2 * j) (by omega) 0, wi_1]
            by_cases hj : j = x1.toNatClampNeg
            · rw [if_pos ⟨by omega, rfl⟩, if_pos hj]
            · rw [if_neg (by omega), if_neg hj, wi_1, if_neg (by omega)]
        · rw [if_neg h4] at e
          cases e
          exact Or.inr ⟨fun q => h4 q.2.2.1, rfl⟩
      · rw [if_neg h3] at e
        cases e
        exact Or.inr ⟨fun q => h3 q.2.2.2, rfl⟩
    · rw [if_pos (di_ine.mpr h2)] at e
      cases e
      exact Or.inr ⟨fun q => h2 q.2.1, rfl⟩
  · rw [if_pos (di_ine.mpr h1)] at e
    cases e
    exact Or.inr ⟨fun q => h1 q.1, rfl⟩
theorem sh_l56 {x1 x4 : Int32} {m : dc_M} {e : Int32 × dc_M} (h : d_X10_sheet_l56 82 x1 x4 m = some e) : ∀ b, b ≠ 119 → ∀ k, e.2.1 b k = m.1 b k := by
  unfold d_X10_sheet_l56 at h
  refine dc_lp_inv (fun s => ∀ b, b ≠ 119 → ∀ k, s.2.1 b k = m.1 b k) (fun e => ∀ b, b ≠ 119 → ∀ k, e.2.1 b k = m.1 b k) (fun s s' hI e => ?_) (fun s e' hI e => ?_) (fun b _ k => rfl) h
  · unfold d_X10_sheet_l56s d_X10_sheet_l56b at e
    split at e
    · cases e
    · cases e
      intro b hb k
      exact (wi_o hb).trans (hI b hb k)
  · unfold d_X10_sheet_l56s d_X10_sheet_l56b at e
    split at e
    · cases e
      exact hI
    · cases e
theorem sh_sh10 {x1 x2 x3 v : Int32} {m m' : dc_M} (e : d_X10_sheet 82 x1 x2 x3 m = some (v, m')) : (sh_ok x1 x2 x3 ∧ ∀ j, (m'.1 117 j = if j = x1.toNatClampNeg then x2 else m.1 117 j) ∧ (m'.1 118 j = if j = x1.toNatClampNeg then x3 else m.1 118 j)) ∨ (¬ sh_ok x1 x2 x3 ∧ m' = m) := by
  unfold d_X10_sheet at e
  rw [di_in, di_in, di_il, di_il, show (0 : Int64).toInt = 0 from rfl, show (3 : Int64).toInt = 3 from rfl, show (2 : Int64).toInt = 2 from rfl] at e
  by_cases h1 : 0 ≤ x1.toInt ∧ x1.toInt ≤ 3
  · rw [if_neg (fun q => (di_ine.mp q) h1)] at e
    by_cases h2 : 0 ≤ x2.toInt ∧ x2.toInt ≤ 2
    · rw [if_neg (fun q => (di_ine.mp q) h2)] at e
      by_cases h3 : x3.toInt ≤ 64
      · rw [if_pos h3] at e
        by_cases h4 : 0 ≤ x3.toInt
        · rw [if_pos h4] at e
          refine Or.inl ⟨⟨h1, h2, h4, h3⟩, fun j => ?_⟩
          rw [show 82 + 35 = 117 from rfl, show 82 + 36 = 118 from rfl] at e
          have q := sh_l56 e
          have q1 := q 117 (by decide) j
          have q2 := q 118 (by decide) j
          dsimp only at q1 q2
          rw [q1, q2, wi_o (show ¬ 117 = 118 by decide), wi_1, wi_1]
          by_cases hj : j = x1.toNatClampNeg
          · rw [if_pos ⟨rfl, hj⟩, if_pos hj, if_pos ⟨rfl, hj⟩, if_pos hj]
            exact ⟨rfl, rfl⟩
          · rw [if_neg (fun z => hj z.2), if_neg hj, if_neg (fun z => hj z.2), if_neg hj, wi_o (show ¬ 118 = 117 by decide)]
            exact ⟨rfl, rfl⟩
        · rw [if_neg h4] at e
          cases e
          exact Or.inr ⟨fun q => h4 q.2.2.1, rfl⟩
      · rw [if_neg h3] at e
        cases e
        exact Or.inr ⟨fun q => h3 q.2.2.2, rfl⟩
    · rw [if_pos (di_ine.mpr h2)] at e
      cases e
      exact Or.inr ⟨fun q => h2 q.2.1, rfl⟩
  · rw [if_pos (di_ine.mpr h1)] at e
    cases e
    exact Or.inr ⟨fun q => h1 q.1, rfl⟩
def sh_J26 (a b : Nat) (xs : Nat → Int32) (i : Nat) (_ : Int32) (h1 : ab_H) : Prop := gm a b h1 ∧ ((sh_ok (xs (i + 1)) (xs (i + 2)) (xs (i + 3)) ∧ ∀ j, j < 4 → (j = (xs (i + 1)).toNatClampNeg ∧ (dc_vw h1).1 (74 + 2 * j) 0 = xs (i + 3)) ∨ (j ≠ (xs (i + 1)).toNatClampNeg ∧ sh_r ((dc_vw h1).1 (74 + 2 * j) 0) ((dc_vw h1).1 117 j) ((dc_vw h1).1 118 j))) ∨ (¬ sh_ok (xs (i + 1)) (xs (i + 2)) (xs (i + 3)) ∧ sh_R h1))
theorem sh_k3 (T : cs_T z L xs) {a b i : Nat} (hd : 999 ≤ d) {K : sx_KK} (hK : sx_mem sx_KT2 K) (h0 : K.1 = 127) (hs : K.2.1 = gs_in 1 [(135, .inr (1, a)), (136, .inr (1, b))] 3) (hdp : K.2.2.2.1 ≤ 999) (d1 : K.2.2.1.contains 15103 = false) (d2 : K.2.2.1.contains 15231 = false) (m1 : K.2.2.1.contains 135 = false) (m2 : K.2.2.1.contains 136 = false) (hh : sx_h sx_SP z L xs h) (hm : gm a b h) (R : sh_R h) : ab_go d ab_M_X9_sheet 0 [(0, .ref 1), (1, .int (xs (i + 1))), (2, .int (xs (i + 2))), (3, .int (xs (i + 3)))] [] h (fun r h1 => ∃ v1, r = some (.int v1) ∧ sx_h sx_SP z L xs h1 ∧ sh_J26 a b xs i v1 h1) := by
  have hat := gs_at (c := 1) (fs := [(135, .inr (1, a)), (136, .inr (1, b))]) [xs (i + 1), xs (i + 2), xs (i + 3)] hh (gm_f hm)
  have hat : sx_at sx_SP z L xs K.2.1 (fun s => ([xs (i + 1), xs (i + 2), xs (i + 3)].getD (s - 1) 0).toInt) [] [.ref 1, .int (xs (i + 1)), .int (xs (i + 2)), .int (xs (i + 3))] h := by rw [hs]; exact hat
  have g := gd_run (M := ab_M_X9_sheet) (d := d) (Q := fun r m' => ∃ v, r = some (.int v) ∧ d_X9_sheet 1 (xs (i + 1)) (xs (i + 2)) (xs (i + 3)) (dc_vw h) = some (v, m')) (T K hK) (by rw [h0]; rfl) (by omega) hat (fun N => k_X9_sheet (Φ := fun t r m' => ∃ v, r = some (.int v) ∧ t = some (v, m')) 1 _ _ _ _ (fun v _ => ⟨v, rfl, rfl⟩) rfl rfl rfl rfl)
  refine g.imp (fun r h1 hp => ?_)
  obtain ⟨p, v, e, ee⟩ := hp
  obtain ⟨hh1, hfr⟩ := nw_h p
  refine ⟨v, e, hh1, gm_fr hm hfr m1 m2, ?_⟩
  rcases sh_sh9 (fun j hj => sh_40 hh hj) ee with ⟨ok, q⟩ | ⟨ok, q⟩
  · refine Or.inl ⟨ok, fun j hj => ?_⟩
    rw [q j, sh_117 hfr hh hh1 d1, sh_118 hfr hh hh1 d2]
    by_cases hx : j = (xs (i + 1)).toNatClampNeg
    · rw [if_pos hx]
      exact Or.inl ⟨hx, rfl⟩
    · rw [if_neg hx]
      exact Or.inr ⟨hx, R j hj⟩
  · refine Or.inr ⟨ok, fun j hj => ?_⟩
    rw [q]
    exact R j hj
theorem sh_k4 (T : cs_T z L xs) {a b i : Nat} {v1 : Int32} (hd : 999 ≤ d) {K : sx_KK} (hK : sx_mem sx_KT2 K) (h0 : K.1 = 225) (hs : K.2.1 = gs_in 82 [] 3) (hdp : K.2.2.2.1 ≤ 999) (c0 : K.2.2.1.contains 9472 = false) (c1 : K.2.2.1.contains 9728 = false) (c2 : K.2.2.1.contains 9984 = false) (c3 : K.2.2.1.contains 10240 = false) (m1 : K.2.2.1.contains 135 = false) (m2 : K.2.2.1.contains 136 = false) (hmd : cs_md a b) (hh : sx_h sx_SP z L xs h) (J : sh_J26 a b xs i v1 h) : ab_go d ab_M_X10_sheet 0 [(0, .ref 82), (1, .int (xs (i + 1))), (2, .int (xs (i + 2))), (3, .int (xs (i + 3)))] [] h (fun r h2 => ∃ v2, r = some (.int v2) ∧ sx_h sx_SP z L xs h2 ∧ ∃ a' b', cs_md a' b' ∧ gm a' b' h2 ∧ sh_R h2) := by
  obtain ⟨hm, J⟩ := J
  have hat := gs_at (c := 82) (fs := []) [xs (i + 1), xs (i + 2), xs (i + 3)] hh (fun q hq => by cases hq)
  have hat : sx_at sx_SP z L xs K.2.1 (fun s => ([xs (i + 1), xs (i + 2), xs (i + 3)].getD (s - 1) 0).toInt) [] [.ref 82, .int (xs (i + 1)), .int (xs (i + 2)), .int (xs (i + 3))] h := by rw [hs]; exact hat
  have g := gd_run (M := ab_M_X10_sheet) (d := d) (Q := fun r m' => ∃ v, r = some (.int v) ∧ d_X10_sheet 82 (xs (i + 1)) (xs (i + 2)) (xs (i + 3)) (dc_vw h) = some (v, m')) (T K hK) (by rw [h0]; rfl) (by omega) hat (fun N => k_X10_sheet (Φ := fun t r m' => ∃ v, r = some (.int v) ∧ t = some (v, m')) 82 _ _ _ _ (fun v _ => ⟨v, rfl, rfl⟩) rfl rfl rfl rfl)
  refine g.imp (fun r h1 hp => ?_)
  obtain ⟨p, v, e, ee⟩ := hp
  obtain ⟨hh1, hfr⟩ := nw_h p
  have sz : ∀ j, j < 4 → (dc_vw h1).1 (74 + 2 * j) 0 = (dc_vw h).1 (74 + 2 * j) 0 := fun j hj => sh_si hfr hh hh1 hj (by rcases (show j = 0 ∨ j = 1 ∨ j = 2 ∨ j = 3 by omega) with rfl | rfl | rfl | rfl <;> assumption)
  refine ⟨v, e, hh1, a, b, hmd, gm_fr hm hfr m1 m2, fun j hj => ?_⟩
  rw [sz j hj]
  rcases sh_sh10 ee with ⟨ok, q⟩ | ⟨ok, q⟩
  · rcases J with ⟨-, J⟩ | ⟨no, -⟩
    · rw [(q j).1, (q j).2]
      rcases J j hj with ⟨hx, z⟩ | ⟨hx, z⟩
      · rw [if_pos hx, if_pos hx, z]
        exact Or.inr ⟨rfl, by have := ok.2.1; omega, ok.2.2⟩
      · rw [if_neg hx, if_neg hx]
        exact z
    · exact absurd ok no
  · rcases J with ⟨ok2, -⟩ | ⟨-, J⟩
    · exact absurd ok2 ok
    · rw [q]
      exact J j hj
end SH
