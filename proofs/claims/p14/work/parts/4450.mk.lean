/-! ===== cubeAt: the chosen cubes, one after the other ===== -/
theorem ca_sub {m : Nat} (h : m < 1000) : Int32.ofNat (m + 1) - 1 = Int32.ofNat m := by
  apply Int32.toInt_inj.mp
  rw [Int32.toInt_sub, mk_i (by omega), mk_i (by omega), show (1 : Int32).toInt = 1 from rfl, sx_bm (by omega) (by omega)]
  omega
theorem ca_dec {nL i pc m : Nat} {lv : ab_L} {st : List Value} {h : ab_H} (hL : i < nL) (hm : m < 1000) (hx : ab_lk lv i = some (.int (Int32.ofNat (m + 1)))) : ab_inc nL i (-1) pc lv st h = some (pc + 3, ab_s1 i (.int (Int32.ofNat m)) lv, st, h) := by
  unfold ab_inc
  rw [hx]
  have : Int32.ofNat (m + 1) + Int32.ofInt (-1) = Int32.ofNat m := by
    apply Int32.toInt_inj.mp
    rw [Int32.toInt_add, mk_i (by omega), mk_i (by omega), show (Int32.ofInt (-1)).toInt = -1 from rfl, sx_bm (by omega) (by omega)]
    omega
  show (if i < nL then some (pc + 3, ab_s1 i (.int (Int32.ofNat (m + 1) + Int32.ofInt (-1))) lv, st, h) else none) = _
  rw [if_pos hL, this]
section CA
variable {d : Nat} {h0 : ab_H} {ws : List Value} {co : Nat → Int64} {cl : Nat → Int32} {n : Nat} {on X has : Int64} {I Lf K6 : Int32} {Q : Option Value → ab_H → Prop}
/-- the lowest level that is lacked -/
theorem ca_bit {h : ab_H} {m t : Nat} (kk : ∀ (v : Nat) (lv : ab_L), v < 64 → mk_bt X v = true → ab_lk lv 0 = some (.ref 82) → ab_lk lv 1 = some (.int I) → ab_lk lv 2 = some (.long has) → ab_lk lv 4 = some (.int (Int32.ofNat (m + 1))) → ab_lk lv 5 = some (.int Lf) → ab_lk lv 7 = some (.int (Int32.ofNat t)) → ab_lk lv 8 = some (.long X) → ab_lk lv 10 = some (.int (Int32.ofNat v)) → ab_go d ab_M_X10_cubeAt 59 lv [] h Q) :
    ∀ (r v : Nat) (lv : ab_L), v + r = 64 → (∃ u, v ≤ u ∧ u < 64 ∧ mk_bt X u = true) → ab_lk lv 0 = some (.ref 82) → ab_lk lv 1 = some (.int I) → ab_lk lv 2 = some (.long has) → ab_lk lv 4 = some (.int (Int32.ofNat (m + 1))) → ab_lk lv 5 = some (.int Lf) → ab_lk lv 7 = some (.int (Int32.ofNat t)) → ab_lk lv 8 = some (.long X) → ab_lk lv 10 = some (.int (Int32.ofNat v)) → ab_go d ab_M_X10_cubeAt 41 lv [] h Q := by
  intro r
  induction r with
  | zero => intro v lv hr ⟨u, h1, h2, _⟩; omega
  | succ r ih =>
    intro v lv hr hu f0 f1 f2 f4 f5 f7 f8 f10
    refine go_s (pc' := 43) (lv' := lv) (st' := [.long X]) (h' := h) rfl rfl (mk_lld f8) ?_
    refine go_s (pc' := 45) (lv' := lv) (st' := [.int (Int32.ofNat v), .long X]) (h' := h) rfl rfl (po_ild (nL := 0) f10) ?_
    refine go_s (pc' := 46) (lv' := lv) (st' := [.long (X >>> (Int32.toInt64 (Int32.ofNat v) &&& 63))]) (h' := h) rfl rfl rfl ?_
    refine go_s (pc' := 47) (lv' := lv) (st' := [.long 1, .long (X >>> (Int32.toInt64 (Int32.ofNat v) &&& 63))]) (h' := h) rfl rfl rfl ?_
    refine go_s (pc' := 48) (lv' := lv) (st' := [.long (if mk_bt X v = true then 1 else 0)]) (h' := h) rfl rfl (by rw [← mk_bit X (show v < 64 by omega)]; rfl) ?_
    refine go_s (pc' := 49) (lv' := lv) (st' := [.long 0, .long (if mk_bt X v = true then 1 else 0)]) (h' := h) rfl rfl rfl ?_
    refine go_s (pc' := 50) (lv' := lv) (st' := [.int (lg_cmp (if mk_bt X v = true then 1 else 0) 0)]) (h' := h) rfl rfl rfl ?_
    refine go_ifl (c := .ne) (off := 9) (tgt := 59) rfl rfl (fun q => kk v lv (by omega) ?_ f0 f1 f2 f4 f5 f7 f8 f10) (fun q => ?_)
    · cases e : mk_bt X v with
      | true => rfl
      | false => exact absurd ((mk_cmp0 (mk_bt X v)).mpr e) q
    have hb : mk_bt X v = false := (mk_cmp0 (mk_bt X v)).mp (Classical.not_not.mp q)
    refine go_s (pc' := 56) (lv' := (ab_s1 10 (.int (Int32.ofNat (v + 1))) lv)) (st' := []) (h' := h) rfl rfl (mk_inc1 (by decide) (by omega) f10) ?_
    have f10 : ab_lk (ab_s1 10 (.int (Int32.ofNat (v + 1))) lv) 10 = some (.int (Int32.ofNat (v + 1))) := mk_s1s
    have f0 := po_s1_other (v := .int (Int32.ofNat (v + 1))) (i := 10) f0 (by decide) (fun q => absurd q.1 (by decide))
    have f1 := po_s1_other (v := .int (Int32.ofNat (v + 1))) (i := 10) f1 (by decide) (fun q => absurd q.1 (by decide))
    have f2 := po_s1_other (v := .int (Int32.ofNat (v + 1))) (i := 10) f2 (by decide) (fun q => absurd q.1 (by decide))
    have f4 := po_s1_other (v := .int (Int32.ofNat (v + 1))) (i := 10) f4 (by decide) (fun q => absurd q.1 (by decide))
    have f5 := po_s1_other (v := .int (Int32.ofNat (v + 1))) (i := 10) f5 (by decide) (fun q => absurd q.1 (by decide))
    have f7 := po_s1_other (v := .int (Int32.ofNat (v + 1))) (i := 10) f7 (by decide) (fun q => absurd q.1 (by decide))
    have f8 := po_s1_other (v := .int (Int32.ofNat (v + 1))) (i := 10) f8 (by decide) (fun q => absurd q.1 (by decide))
    generalize ab_s1 10 (.int (Int32.ofNat (v + 1))) lv = lv1 at f0 f1 f2 f4 f5 f7 f8 f10 ⊢
    refine go_goto (off := -15) (tgt := 41) rfl rfl ?_
    refine ih (v + 1) lv1 (by omega) ?_ f0 f1 f2 f4 f5 f7 f8 f10
    obtain ⟨u, h1, h2, h3⟩ := hu
    refine ⟨u, ?_, h2, h3⟩
    by_cases e : u = v
    · rw [e, hb] at h3; cases h3
    · omega
/-- the first cube that may be chosen -/
theorem ca_k (hw : mw ws n on) (hc : ∀ k, k < n → 0 ≤ (cl k).toInt ∧ (cl k).toInt ≤ 6) {m t v : Nat} (hm : m ≤ 64) (hv : v < 64) (hL : 0 ≤ Lf.toInt ∧ Lf.toInt ≤ 384) (hex : ∃ k, k < n ∧ mk_bt (co k) v = true ∧ mk_G cl n k ≤ Lf.toInt ∧ lm_c n co cl on m (has ||| co k) (Lf.toInt - mk_G cl n k))
    (kk : ∀ (k : Nat) (h : ab_H) (lv : ab_L), k < n → (cl k).toInt ≤ Lf.toInt → lm_c n co cl on m (has ||| co k) (Lf.toInt - (cl k).toInt) → lm_S h ws co cl → cm_F h0 h → ab_lk lv 0 = some (.ref 82) → ab_lk lv 1 = some (.int I) → ab_lk lv 2 = some (.long has) → ab_lk lv 4 = some (.int (Int32.ofNat (m + 1))) → ab_lk lv 5 = some (.int Lf) → ab_lk lv 6 = some (.int (Int32.ofNat k)) → ab_lk lv 7 = some (.int (Int32.ofNat t)) → ab_lk lv 10 = some (.int (Int32.ofNat v)) → ab_go (d + 2) ab_M_X10_cubeAt 127 lv [] h Q) :
    ∀ (r k : Nat) (h : ab_H) (lv : ab_L), k + r = n → (∀ j, j < k → ¬ (mk_bt (co j) v = true ∧ (cl j).toInt ≤ Lf.toInt ∧ lm_c n co cl on m (has ||| co j) (Lf.toInt - (cl j).toInt))) → lm_S h ws co cl → cm_F h0 h → ab_lk lv 0 = some (.ref 82) → ab_lk lv 1 = some (.int I) → ab_lk lv 2 = some (.long has) → ab_lk lv 4 = some (.int (Int32.ofNat (m + 1))) → ab_lk lv 5 = some (.int Lf) → ab_lk lv 6 = some (.int (Int32.ofNat k)) → ab_lk lv 7 = some (.int (Int32.ofNat t)) → ab_lk lv 10 = some (.int (Int32.ofNat v)) → ab_go (d + 2) ab_M_X10_cubeAt 62 lv [] h Q := by
  have hn := hw.1
  intro r
  induction r with
  | zero =>
    intro k h lv hr hno
    obtain ⟨j, h1, h2, h3, h4⟩ := hex
    rw [mk_Glt h1] at h3 h4
    exact absurd ⟨h2, h3, h4⟩ (hno j (by omega))
  | succ r ih =>
    intro k h lv hr hno mS hF f0 f1 f2 f4 f5 f6 f7 f10
    have hck := hc k (by omega)
    have again : ∀ (h : ab_H) (lv : ab_L), ¬ (mk_bt (co k) v = true ∧ (cl k).toInt ≤ Lf.toInt ∧ lm_c n co cl on m (has ||| co k) (Lf.toInt - (cl k).toInt)) → lm_S h ws co cl → cm_F h0 h → ab_lk lv 0 = some (.ref 82) → ab_lk lv 1 = some (.int I) → ab_lk lv 2 = some (.long has) → ab_lk lv 4 = some (.int (Int32.ofNat (m + 1))) → ab_lk lv 5 = some (.int Lf) → ab_lk lv 6 = some (.int (Int32.ofNat k)) → ab_lk lv 7 = some (.int (Int32.ofNat t)) → ab_lk lv 10 = some (.int (Int32.ofNat v)) → ab_go (d + 2) ab_M_X10_cubeAt 121 lv [] h Q := by
      intro h lv hk mS hF f0 f1 f2 f4 f5 f6 f7 f10
      refine go_s (pc' := 124) (lv' := (ab_s1 6 (.int (Int32.ofNat (k + 1))) lv)) (st' := []) (h' := h) rfl rfl (mk_inc1 (by decide) (by omega) f6) ?_
      have f6 : ab_lk (ab_s1 6 (.int (Int32.ofNat (k + 1))) lv) 6 = some (.int (Int32.ofNat (k + 1))) := mk_s1s
      have f0 := po_s1_other (v := .int (Int32.ofNat (k + 1))) (i := 6) f0 (by decide) (fun q => absurd q.1 (by decide))
      have f1 := po_s1_other (v := .int (Int32.ofNat (k + 1))) (i := 6) f1 (by decide) (fun q => absurd q.1 (by decide))
      have f2 := po_s1_other (v := .int (Int32.ofNat (k + 1))) (i := 6) f2 (by decide) (fun q => absurd q.1 (by decide))
      have f4 := po_s1_other (v := .int (Int32.ofNat (k + 1))) (i := 6) f4 (by decide) (fun q => absurd q.1 (by decide))
      have f5 := po_s1_other (v := .int (Int32.ofNat (k + 1))) (i := 6) f5 (by decide) (fun q => absurd q.2 (show ¬ (1 : Nat) = 2 by decide))
      have f7 := po_s1_other (v := .int (Int32.ofNat (k + 1))) (i := 6) f7 (by decide) (fun q => absurd q.1 (by decide))
      have f10 := po_s1_other (v := .int (Int32.ofNat (k + 1))) (i := 6) f10 (by decide) (fun q => absurd q.1 (by decide))
      generalize ab_s1 6 (.int (Int32.ofNat (k + 1))) lv = lv1 at f0 f1 f2 f4 f5 f6 f7 f10 ⊢
      refine go_goto (off := -62) (tgt := 62) rfl rfl ?_
      refine ih (k + 1) h lv1 (by omega) (fun j hj => ?_) mS hF f0 f1 f2 f4 f5 f6 f7 f10
      by_cases e : j = k
      · rw [e]; exact hk
      · exact hno j (by omega)
    obtain ⟨cv, pt, tr, ll, m0, mT⟩ := mS
    refine go_s (pc' := 63) (lv' := lv) (st' := [.ref 82]) (h' := h) rfl rfl (ig_ald f0) ?_
    refine go_get (ci := 10) (k := 51) rfl m0.1 hw.2.2.2.1 ?_
    refine go_s (pc' := 68) (lv' := lv) (st' := [.int (Int32.ofNat k), .ref 104]) (h' := h) rfl rfl (po_ild (nL := 0) f6) ?_
    refine go_lal (v := co k) rfl m0.2.1 (mk_ix (by omega) (by omega)) (by rw [mk_cl (by omega)]) ?_
    refine go_s (pc' := 71) (lv' := lv) (st' := [.int (Int32.ofNat v), .long (co k)]) (h' := h) rfl rfl (po_ild (nL := 0) f10) ?_
    refine go_s (pc' := 72) (lv' := lv) (st' := [.long ((co k) >>> (Int32.toInt64 (Int32.ofNat v) &&& 63))]) (h' := h) rfl rfl rfl ?_
    refine go_s (pc' := 73) (lv' := lv) (st' := [.long 1, .long ((co k) >>> (Int32.toInt64 (Int32.ofNat v) &&& 63))]) (h' := h) rfl rfl rfl ?_
    refine go_s (pc' := 74) (lv' := lv) (st' := [.long (if mk_bt (co k) v = true then 1 else 0)]) (h' := h) rfl rfl (by rw [← mk_bit (co k) hv]; rfl) ?_
    refine go_s (pc' := 75) (lv' := lv) (st' := [.long 0, .long (if mk_bt (co k) v = true then 1 else 0)]) (h' := h) rfl rfl rfl ?_
    refine go_s (pc' := 76) (lv' := lv) (st' := [.int (lg_cmp (if mk_bt (co k) v = true then 1 else 0) 0)]) (h' := h) rfl rfl rfl ?_
    refine go_ifl (c := .eq) (off := 45) (tgt := 121) rfl rfl (fun q => again h _ (fun z => ?_) ⟨cv, pt, tr, ll, m0, mT⟩ hF f0 f1 f2 f4 f5 f6 f7 f10) (fun q => ?_)
    · have z1 := z.1
      rw [(mk_cmp0 (mk_bt (co k) v)).mp q] at z1
      cases z1
    have hb : mk_bt (co k) v = true := by
      cases e : mk_bt (co k) v with
      | true => rfl
      | false => exact absurd ((mk_cmp0 (mk_bt (co k) v)).mpr e) q
    refine go_s (pc' := 80) (lv' := lv) (st' := [.ref 82]) (h' := h) rfl rfl (ig_ald f0) ?_
    refine go_get (ci := 10) (k := 52) rfl m0.1 hw.2.2.2.2.1 ?_
    refine go_s (pc' := 85) (lv' := lv) (st' := [.int (Int32.ofNat k), .ref 105]) (h' := h) rfl rfl (po_ild (nL := 0) f6) ?_
    refine go_ial (v := cl k) rfl m0.2.2.1 (mk_ix (by omega) (by omega)) (by rw [mk_cl (by omega)]) ?_
    refine go_s (pc' := 88) (lv' := lv) (st' := [.int Lf, .int (cl k)]) (h' := h) rfl rfl (po_ild (nL := 0) f5) ?_
    refine go_ic (c := .gt) (off := 33) (tgt := 121) rfl rfl (fun q => again h _ (fun z => ?_) ⟨cv, pt, tr, ll, m0, mT⟩ hF f0 f1 f2 f4 f5 f6 f7 f10) (fun q => ?_)
    · have q : Lf.toInt < (cl k).toInt := q
      have := z.2.1
      omega
    have hle : (cl k).toInt ≤ Lf.toInt := Int.not_lt.mp q
    have hsub : (Lf - cl k).toInt = Lf.toInt - (cl k).toInt := by
      rw [Int32.toInt_sub, sx_bm (by omega) (by omega)]
    refine go_s (pc' := 92) (lv' := lv) (st' := [.ref 82]) (h' := h) rfl rfl (ig_ald f0) ?_
    refine go_s (pc' := 93) (lv' := lv) (st' := [.long has, .ref 82]) (h' := h) rfl rfl (mk_lld f2) ?_
    refine go_s (pc' := 94) (lv' := lv) (st' := [.ref 82, .long has, .ref 82]) (h' := h) rfl rfl (ig_ald f0) ?_
    refine go_get (ci := 10) (k := 51) rfl m0.1 hw.2.2.2.1 ?_
    refine go_s (pc' := 99) (lv' := lv) (st' := [.int (Int32.ofNat k), .ref 104, .long has, .ref 82]) (h' := h) rfl rfl (po_ild (nL := 0) f6) ?_
    refine go_lal (v := co k) rfl m0.2.1 (mk_ix (by omega) (by omega)) (by rw [mk_cl (by omega)]) ?_
    refine go_s (pc' := 101) (lv' := lv) (st' := [.long (has ||| (co k)), .ref 82]) (h' := h) rfl rfl rfl ?_
    refine go_s (pc' := 103) (lv' := lv) (st' := [.int (Int32.ofNat (m + 1)), .long (has ||| (co k)), .ref 82]) (h' := h) rfl rfl (po_ild (nL := 0) f4) ?_
    refine go_s (pc' := 104) (lv' := lv) (st' := [.int 1, .int (Int32.ofNat (m + 1)), .long (has ||| (co k)), .ref 82]) (h' := h) rfl rfl rfl ?_
    refine go_s (pc' := 105) (lv' := lv) (st' := [.int (Int32.ofNat m), .long (has ||| (co k)), .ref 82]) (h' := h) rfl rfl (by show some (_, _, Value.int (Int32.ofNat (m + 1) - 1) :: _, _) = _; rw [ca_sub (by omega)]) ?_
    refine go_s (pc' := 107) (lv' := lv) (st' := [.int Lf, .int (Int32.ofNat m), .long (has ||| (co k)), .ref 82]) (h' := h) rfl rfl (po_ild (nL := 0) f5) ?_
    refine go_s (pc' := 108) (lv' := lv) (st' := [.ref 82, .int Lf, .int (Int32.ofNat m), .long (has ||| (co k)), .ref 82]) (h' := h) rfl rfl (ig_ald f0) ?_
    refine go_get (ci := 10) (k := 52) rfl m0.1 hw.2.2.2.2.1 ?_
    refine go_s (pc' := 113) (lv' := lv) (st' := [.int (Int32.ofNat k), .ref 105, .int Lf, .int (Int32.ofNat m), .long (has ||| (co k)), .ref 82]) (h' := h) rfl rfl (po_ild (nL := 0) f6) ?_
    refine go_ial (v := cl k) rfl m0.2.2.1 (mk_ix (by omega) (by omega)) (by rw [mk_cl (by omega)]) ?_
    refine go_s (pc' := 115) (lv' := lv) (st' := [.int (Lf - (cl k)), .int (Int32.ofNat m), .long (has ||| (co k)), .ref 82]) (h' := h) rfl rfl rfl ?_
    refine go_c rfl rfl (cm_cal_cm (rest := []) (show 0 ≤ 8 by decide) m0.1) rfl (cm_call (M := m) hw hc ⟨cv, pt, tr, ll, m0, mT⟩ d (by omega) (has ||| co k) (Lf - cl k) (by rw [hsub]; omega)) (fun r h' hr => ?_)
    obtain ⟨⟨m2, c2⟩, b, rfl, hb2⟩ := hr
    rw [hsub] at hb2
    have hF2 : cm_F h0 h' := ⟨c2.1.trans hF.1, c2.2.1.trans hF.2.1, fun a ha => (c2.2.2 a ha).trans (hF.2.2 a ha)⟩
    show ab_go (d + 2) ab_M_X10_cubeAt 118 _ [.int b] _ Q
    refine go_if (c := .ne) (off := 9) (tgt := 127) rfl rfl (fun q => ?_) (fun q => ?_)
    · rcases hb2 with ⟨_, hb2⟩ | ⟨hb2, _⟩
      · exact kk k h' _ (by omega) hle hb2 m2 hF2 f0 f1 f2 f4 f5 f6 f7 f10
      · exact absurd (by rw [hb2]; rfl) q
    · rcases hb2 with ⟨hb2, _⟩ | ⟨_, hb2⟩
      · exact absurd (show ¬ b.toInt = 0 by rw [hb2]; decide) q
      · exact again h' _ (fun z => hb2 z.2.2) m2 hF2 f0 f1 f2 f4 f5 f6 f7 f10
/-- the outer loop -/
theorem ca_out (hw : mw ws n on) (hc : ∀ k, k < n → 0 ≤ (cl k).toInt ∧ (cl k).toInt ≤ 6) {cu : Nat → Int32} (h103 : ab_rd h0 103 = some (.inl (0, 729, .inl cu))) (h50 : ws[50]? = some (.ref 103)) {J a : Nat} (hJ : J ≤ 64) (ha : a < J) (hI : I = Int32.ofNat a) (kk : ∀ (h : ab_H) (x : Int32), lm_S h ws co cl → cm_F h0 h → Q (some (.int x)) h) :
    ∀ (r t k : Nat) (has : Int64) (Lf : Int32) (h : ab_H) (lv : ab_L), t + r = a + 1 → (t = 0 ∨ k < n) → (0 ≤ Lf.toInt ∧ Lf.toInt ≤ 384) → lm_c n co cl on (J - t) has Lf.toInt → (∀ j, j < J - t → ¬ lm_c n co cl on j has Lf.toInt) → lm_S h ws co cl → cm_F h0 h → ab_lk lv 0 = some (.ref 82) → ab_lk lv 1 = some (.int I) → ab_lk lv 2 = some (.long has) → ab_lk lv 4 = some (.int (Int32.ofNat (J - t))) → ab_lk lv 5 = some (.int Lf) → ab_lk lv 6 = some (.int (Int32.ofNat k)) → ab_lk lv 7 = some (.int (Int32.ofNat t)) → ab_go (d + 2) ab_M_X10_cubeAt 20 lv [] h Q := by
  have hn := hw.1
  intro r
  induction r with
  | zero =>
    intro t k has Lf h lv hr hk hL hcan hmin mS hF f0 f1 f2 f4 f5 f6 f7
    have hk : k < n := by omega
    obtain ⟨cv, pt, tr, ll, m0, mT⟩ := mS
    have h103' : ab_rd h 103 = some (.inl (0, 729, .inl cu)) := by
      unfold ab_rd at h103 ⊢
      rw [hF.1, hF.2.2 103 (by decide)]
      exact h103
    refine go_s (pc' := 22) (lv' := lv) (st' := [.int (Int32.ofNat t)]) (h' := h) rfl rfl (po_ild (nL := 0) f7) ?_
    refine go_s (pc' := 23) (lv' := lv) (st' := [.int I, .int (Int32.ofNat t)]) (h' := h) rfl rfl (po_ild (nL := 0) f1) ?_
    refine go_ic (c := .gt) (off := 135) (tgt := 158) rfl rfl (fun q => ?_) (fun q => absurd (show I.toInt < (Int32.ofNat t).toInt by rw [hI, mk_i (by omega), mk_i (by omega)]; omega) q)
    refine go_s (pc' := 159) (lv' := lv) (st' := [.ref 82]) (h' := h) rfl rfl (ig_ald f0) ?_
    refine go_get (ci := 10) (k := 50) rfl m0.1 h50 ?_
    refine go_s (pc' := 164) (lv' := lv) (st' := [.int (Int32.ofNat k), .ref 103]) (h' := h) rfl rfl (po_ild (nL := 0) f6) ?_
    refine go_ial (v := cu k) rfl h103' (mk_ix (by omega) (by omega)) (by rw [mk_cl (by omega)]) ?_
    exact go_ri rfl rfl (kk h (cu k) ⟨cv, pt, tr, ll, m0, mT⟩ hF)
  | succ r ih =>
    intro t k has Lf h lv hr hk hL hcan hmin mS hF f0 f1 f2 f4 f5 f6 f7
    have mS0 := mS
    obtain ⟨cv, pt, tr, ll, m0, mT⟩ := mS
    refine go_s (pc' := 22) (lv' := lv) (st' := [.int (Int32.ofNat t)]) (h' := h) rfl rfl (po_ild (nL := 0) f7) ?_
    refine go_s (pc' := 23) (lv' := lv) (st' := [.int I, .int (Int32.ofNat t)]) (h' := h) rfl rfl (po_ild (nL := 0) f1) ?_
    refine go_ic (c := .gt) (off := 135) (tgt := 158) rfl rfl (fun q => absurd (show I.toInt < (Int32.ofNat t).toInt from q) (by rw [hI, mk_i (by omega), mk_i (by omega)]; omega)) (fun q => ?_)
    refine go_s (pc' := 27) (lv' := lv) (st' := [.ref 82]) (h' := h) rfl rfl (ig_ald f0) ?_
    refine go_get (ci := 10) (k := 47) rfl m0.1 hw.2.1 ?_
    refine go_s (pc' := 31) (lv' := lv) (st' := [.long has, .long on]) (h' := h) rfl rfl (mk_lld f2) ?_
    refine go_s (pc' := 34) (lv' := lv) (st' := [.long (-1), .long has, .long on]) (h' := h) rfl rfl rfl ?_
    refine go_s (pc' := 35) (lv' := lv) (st' := [.long (has ^^^ (-1)), .long on]) (h' := h) rfl rfl rfl ?_
    refine go_s (pc' := 36) (lv' := lv) (st' := [.long (on &&& (has ^^^ (-1)))]) (h' := h) rfl rfl rfl ?_
    have hla : ¬ mk_all on has := fun z => hmin 0 (by omega) z
    have hX : ∃ u, u < 64 ∧ mk_bt (on &&& (has ^^^ -1)) u = true := Classical.byContradiction (fun z => hla (mk_lacks.mp (mk_eq0.mpr (fun i hi => by
      cases e : mk_bt (on &&& (has ^^^ -1)) i with
      | true => exact absurd ⟨i, hi, e⟩ z
      | false => rfl))))
    have hXf : ∀ i, i < 64 → mk_bt (on &&& (has ^^^ -1)) i = true → mk_bt on i = true ∧ mk_bt has i = false := fun i hi hb => by
      rw [mk_and, mk_not _ hi, Bool.and_eq_true, Bool.not_eq_true'] at hb
      exact hb
    generalize on &&& (has ^^^ -1) = X at hX hXf ⊢
    obtain ⟨m, hm⟩ : ∃ m, J - t = m + 1 := ⟨J - t - 1, by omega⟩
    rw [hm] at hcan hmin f4
    refine go_s (pc' := 38) (lv' := (ab_s2 8 (.long X) lv)) (st' := []) (h' := h) rfl rfl rfl ?_
    have f8 : ab_lk (ab_s2 8 (.long X) lv) 8 = some (.long X) := mk_s2s
    have f0 := mk_s2o (v := .long X) (i := 8) f0 (by decide) (by decide) (fun q => absurd q.1 (by decide))
    have f1 := mk_s2o (v := .long X) (i := 8) f1 (by decide) (by decide) (fun q => absurd q.1 (by decide))
    have f2 := mk_s2o (v := .long X) (i := 8) f2 (by decide) (by decide) (fun q => absurd q.1 (by decide))
    have f4 := mk_s2o (v := .long X) (i := 8) f4 (by decide) (by decide) (fun q => absurd q.1 (by decide))
    have f5 := mk_s2o (v := .long X) (i := 8) f5 (by decide) (by decide) (fun q => absurd q.1 (by decide))
    have f6 := mk_s2o (v := .long X) (i := 8) f6 (by decide) (by decide) (fun q => absurd q.1 (by decide))
    have f7 := mk_s2o (v := .long X) (i := 8) f7 (by decide) (by decide) (fun q => absurd q.2 (show ¬ (1 : Nat) = 2 by decide))
    generalize ab_s2 8 (.long X) lv = lv1 at f0 f1 f2 f4 f5 f6 f7 f8 ⊢
    refine go_s (pc' := 39) (lv' := lv1) (st' := [.int 0]) (h' := h) rfl rfl rfl ?_
    refine go_s (pc' := 41) (lv' := (ab_s1 10 (.int 0) lv1)) (st' := []) (h' := h) rfl rfl rfl ?_
    have f10 : ab_lk (ab_s1 10 (.int 0) lv1) 10 = some (.int 0) := mk_s1s
    have f0 := po_s1_other (v := .int 0) (i := 10) f0 (by decide) (fun q => absurd q.1 (by decide))
    have f1 := po_s1_other (v := .int 0) (i := 10) f1 (by decide) (fun q => absurd q.1 (by decide))
    have f2 := po_s1_other (v := .int 0) (i := 10) f2 (by decide) (fun q => absurd q.1 (by decide))
    have f4 := po_s1_other (v := .int 0) (i := 10) f4 (by decide) (fun q => absurd q.1 (by decide))
    have f5 := po_s1_other (v := .int 0) (i := 10) f5 (by decide) (fun q => absurd q.1 (by decide))
    have f6 := po_s1_other (v := .int 0) (i := 10) f6 (by decide) (fun q => absurd q.1 (by decide))
    have f7 := po_s1_other (v := .int 0) (i := 10) f7 (by decide) (fun q => absurd q.1 (by decide))
    have f8 := po_s1_other (v := .int 0) (i := 10) f8 (by decide) (fun q => absurd q.1 (by decide))
    generalize ab_s1 10 (.int 0) lv1 = lv2 at f0 f1 f2 f4 f5 f6 f7 f8 f10 ⊢
    have f10 : ab_lk lv2 10 = some (.int (Int32.ofNat 0)) := f10
    refine ca_bit (m := m) (t := t) (fun v lv hv hb f0 f1 f2 f4 f5 f7 f8 f10 => ?_) 64 0 lv2 (by omega) (by obtain ⟨u, h1, h2⟩ := hX; exact ⟨u, Nat.zero_le _, h1, h2⟩) f0 f1 f2 f4 f5 f7 f8 f10
    have hb2 := hXf v hv hb
    obtain ⟨m', hm', k0, hk0, hbk, hle, hcan0⟩ := mk_pick (fun k => (mk_Gok hc k).1) hv hb2.1 hb2.2 hcan
    obtain rfl : m = m' := by omega
    refine go_s (pc' := 60) (lv' := lv) (st' := [.int 0]) (h' := h) rfl rfl rfl ?_
    refine go_s (pc' := 62) (lv' := (ab_s1 6 (.int 0) lv)) (st' := []) (h' := h) rfl rfl rfl ?_
    have f6 : ab_lk (ab_s1 6 (.int 0) lv) 6 = some (.int 0) := mk_s1s
    have f0 := po_s1_other (v := .int 0) (i := 6) f0 (by decide) (fun q => absurd q.1 (by decide))
    have f1 := po_s1_other (v := .int 0) (i := 6) f1 (by decide) (fun q => absurd q.1 (by decide))
    have f2 := po_s1_other (v := .int 0) (i := 6) f2 (by decide) (fun q => absurd q.1 (by decide))
    have f4 := po_s1_other (v := .int 0) (i := 6) f4 (by decide) (fun q => absurd q.1 (by decide))
    have f5 := po_s1_other (v := .int 0) (i := 6) f5 (by decide) (fun q => absurd q.2 (show ¬ (1 : Nat) = 2 by decide))
    have f7 := po_s1_other (v := .int 0) (i := 6) f7 (by decide) (fun q => absurd q.1 (by decide))
    have f8 := po_s1_other (v := .int 0) (i := 6) f8 (by decide) (fun q => absurd q.1 (by decide))
    have f10 := po_s1_other (v := .int 0) (i := 6) f10 (by decide) (fun q => absurd q.1 (by decide))
    generalize ab_s1 6 (.int 0) lv = lv21 at f0 f1 f2 f4 f5 f6 f7 f8 f10 ⊢
    have f6 : ab_lk lv21 6 = some (.int (Int32.ofNat 0)) := f6
    refine ca_k hw hc (t := t) (h0 := h0) (show m ≤ 64 by omega) hv hL ⟨k0, hk0, hbk, hle, hcan0⟩ (fun k h lv hk hle hcan2 mS hF f0 f1 f2 f4 f5 f6 f7 f10 => ?_) n 0 h lv21 (by omega) (fun j hj => absurd hj (Nat.not_lt_zero _)) mS0 hF f0 f1 f2 f4 f5 f6 f7 f10
    have hck := hc k hk
    obtain ⟨cv, pt, tr, ll, m0, mT⟩ := mS
    have hsub : (Lf - cl k).toInt = Lf.toInt - (cl k).toInt := by
      rw [Int32.toInt_sub, sx_bm (by omega) (by omega)]
    refine go_s (pc' := 128) (lv' := lv) (st' := [.long has]) (h' := h) rfl rfl (mk_lld f2) ?_
    refine go_s (pc' := 129) (lv' := lv) (st' := [.ref 82, .long has]) (h' := h) rfl rfl (ig_ald f0) ?_
    refine go_get (ci := 10) (k := 51) rfl m0.1 hw.2.2.2.1 ?_
    refine go_s (pc' := 134) (lv' := lv) (st' := [.int (Int32.ofNat k), .ref 104, .long has]) (h' := h) rfl rfl (po_ild (nL := 0) f6) ?_
    refine go_lal (v := co k) rfl m0.2.1 (mk_ix (by omega) (by omega)) (by rw [mk_cl (by omega)]) ?_
    refine go_s (pc' := 136) (lv' := lv) (st' := [.long (has ||| (co k))]) (h' := h) rfl rfl rfl ?_
    refine go_s (pc' := 137) (lv' := (ab_s2 2 (.long (has ||| (co k))) lv)) (st' := []) (h' := h) rfl rfl rfl ?_
    have f2 : ab_lk (ab_s2 2 (.long (has ||| (co k))) lv) 2 = some (.long (has ||| (co k))) := mk_s2s
    have f0 := mk_s2o (v := .long (has ||| (co k))) (i := 2) f0 (by decide) (by decide) (fun q => absurd q.1 (by decide))
    have f1 := mk_s2o (v := .long (has ||| (co k))) (i := 2) f1 (by decide) (by decide) (fun q => absurd q.2 (show ¬ (1 : Nat) = 2 by decide))
    have f4 := mk_s2o (v := .long (has ||| (co k))) (i := 2) f4 (by decide) (by decide) (fun q => absurd q.1 (by decide))
    have f5 := mk_s2o (v := .long (has ||| (co k))) (i := 2) f5 (by decide) (by decide) (fun q => absurd q.1 (by decide))
    have f6 := mk_s2o (v := .long (has ||| (co k))) (i := 2) f6 (by decide) (by decide) (fun q => absurd q.1 (by decide))
    have f7 := mk_s2o (v := .long (has ||| (co k))) (i := 2) f7 (by decide) (by decide) (fun q => absurd q.1 (by decide))
    have f10 := mk_s2o (v := .long (has ||| (co k))) (i := 2) f10 (by decide) (by decide) (fun q => absurd q.1 (by decide))
    generalize ab_s2 2 (.long (has ||| (co k))) lv = lv31 at f0 f1 f2 f4 f5 f6 f7 f10 ⊢
    refine go_s (pc' := 140) (lv' := (ab_s1 4 (.int (Int32.ofNat m)) lv31)) (st' := []) (h' := h) rfl rfl (ca_dec (by decide) (by omega) f4) ?_
    have f4 : ab_lk (ab_s1 4 (.int (Int32.ofNat m)) lv31) 4 = some (.int (Int32.ofNat m)) := mk_s1s
    have f0 := po_s1_other (v := .int (Int32.ofNat m)) (i := 4) f0 (by decide) (fun q => absurd q.1 (by decide))
    have f1 := po_s1_other (v := .int (Int32.ofNat m)) (i := 4) f1 (by decide) (fun q => absurd q.1 (by decide))
    have f2 := po_s1_other (v := .int (Int32.ofNat m)) (i := 4) f2 (by decide) (fun q => absurd q.1 (by decide))
    have f5 := po_s1_other (v := .int (Int32.ofNat m)) (i := 4) f5 (by decide) (fun q => absurd q.1 (by decide))
    have f6 := po_s1_other (v := .int (Int32.ofNat m)) (i := 4) f6 (by decide) (fun q => absurd q.1 (by decide))
    have f7 := po_s1_other (v := .int (Int32.ofNat m)) (i := 4) f7 (by decide) (fun q => absurd q.1 (by decide))
    have f10 := po_s1_other (v := .int (Int32.ofNat m)) (i := 4) f10 (by decide) (fun q => absurd q.1 (by decide))
    generalize ab_s1 4 (.int (Int32.ofNat m)) lv31 = lv32 at f0 f1 f2 f4 f5 f6 f7 f10 ⊢
    refine go_s (pc' := 142) (lv' := lv32) (st' := [.int Lf]) (h' := h) rfl rfl (po_ild (nL := 0) f5) ?_
    refine go_s (pc' := 143) (lv' := lv32) (st' := [.ref 82, .int Lf]) (h' := h) rfl rfl (ig_ald f0) ?_
    refine go_get (ci := 10) (k := 52) rfl m0.1 hw.2.2.2.2.1 ?_
    refine go_s (pc' := 148) (lv' := lv32) (st' := [.int (Int32.ofNat k), .ref 105, .int Lf]) (h' := h) rfl rfl (po_ild (nL := 0) f6) ?_
    refine go_ial (v := cl k) rfl m0.2.2.1 (mk_ix (by omega) (by omega)) (by rw [mk_cl (by omega)]) ?_
    refine go_s (pc' := 150) (lv' := lv32) (st' := [.int (Lf - (cl k))]) (h' := h) rfl rfl rfl ?_
    refine go_s (pc' := 152) (lv' := (ab_s1 5 (.int (Lf - (cl k))) lv32)) (st' := []) (h' := h) rfl rfl rfl ?_
    have f5 : ab_lk (ab_s1 5 (.int (Lf - (cl k))) lv32) 5 = some (.int (Lf - (cl k))) := mk_s1s
    have f0 := po_s1_other (v := .int (Lf - (cl k))) (i := 5) f0 (by decide) (fun q => absurd q.1 (by decide))
    have f1 := po_s1_other (v := .int (Lf - (cl k))) (i := 5) f1 (by decide) (fun q => absurd q.1 (by decide))
    have f2 := po_s1_other (v := .int (Lf - (cl k))) (i := 5) f2 (by decide) (fun q => absurd q.1 (by decide))
    have f4 := po_s1_other (v := .int (Lf - (cl k))) (i := 5) f4 (by decide) (fun q => absurd q.2 (show ¬ (1 : Nat) = 2 by decide))
    have f6 := po_s1_other (v := .int (Lf - (cl k))) (i := 5) f6 (by decide) (fun q => absurd q.1 (by decide))
    have f7 := po_s1_other (v := .int (Lf - (cl k))) (i := 5) f7 (by decide) (fun q => absurd q.1 (by decide))
    have f10 := po_s1_other (v := .int (Lf - (cl k))) (i := 5) f10 (by decide) (fun q => absurd q.1 (by decide))
    generalize ab_s1 5 (.int (Lf - (cl k))) lv32 = lv33 at f0 f1 f2 f4 f5 f6 f7 f10 ⊢
    refine go_s (pc' := 155) (lv' := (ab_s1 7 (.int (Int32.ofNat (t + 1))) lv33)) (st' := []) (h' := h) rfl rfl (mk_inc1 (by decide) (by omega) f7) ?_
    have f7 : ab_lk (ab_s1 7 (.int (Int32.ofNat (t + 1))) lv33) 7 = some (.int (Int32.ofNat (t + 1))) := mk_s1s
    have f0 := po_s1_other (v := .int (Int32.ofNat (t + 1))) (i := 7) f0 (by decide) (fun q => absurd q.1 (by decide))
    have f1 := po_s1_other (v := .int (Int32.ofNat (t + 1))) (i := 7) f1 (by decide) (fun q => absurd q.1 (by decide))
    have f2 := po_s1_other (v := .int (Int32.ofNat (t + 1))) (i := 7) f2 (by decide) (fun q => absurd q.1 (by decide))
    have f4 := po_s1_other (v := .int (Int32.ofNat (t + 1))) (i := 7) f4 (by decide) (fun q => absurd q.1 (by decide))
    have f5 := po_s1_other (v := .int (Int32.ofNat (t + 1))) (i := 7) f5 (by decide) (fun q => absurd q.1 (by decide))
    have f6 := po_s1_other (v := .int (Int32.ofNat (t + 1))) (i := 7) f6 (by decide) (fun q => absurd q.2 (show ¬ (1 : Nat) = 2 by decide))
    have f10 := po_s1_other (v := .int (Int32.ofNat (t + 1))) (i := 7) f10 (by decide) (fun q => absurd q.1 (by decide))
    generalize ab_s1 7 (.int (Int32.ofNat (t + 1))) lv33 = lv34 at f0 f1 f2 f4 f5 f6 f7 f10 ⊢
    refine go_goto (off := -135) (tgt := 20) rfl rfl ?_
    have em : J - (t + 1) = m := by omega
    refine ih (t + 1) k (has ||| co k) (Lf - cl k) h lv34 (by omega) (Or.inr hk) (by rw [hsub]; omega) (by rw [em, hsub]; exact hcan2) (fun j hj z => ?_) ⟨cv, pt, tr, ll, m0, mT⟩ hF f0 f1 f2 (by rw [em]; exact f4) f5 f6 f7
    rw [hsub] at z
    exact hmin (j + 1) (by omega) (Or.inr ⟨k, hk, by rw [mk_Glt hk]; exact hle, by rw [mk_Glt hk]; exact z⟩)
/-- the whole call -/
theorem ca_run (hw : mw ws n on) (hc : ∀ k, k < n → 0 ≤ (cl k).toInt ∧ (cl k).toInt ≤ 6) {cu : Nat → Int32} (h103 : ab_rd h0 103 = some (.inl (0, 729, .inl cu))) (h50 : ws[50]? = some (.ref 103)) {J a l : Nat} (h57 : ws[57]? = some (.int (Int32.ofNat J))) (h58 : ws[58]? = some (.int (Int32.ofNat l))) (hJ : J ≤ 64) (hl : l ≤ 384) (ha : a < J) (hcan : lm_c n co cl on J 0 l) (hmin : ∀ j, j < J → ¬ lm_c n co cl on j 0 1000) (m : lm_S h0 ws co cl) (d : Nat) : ab_go (d + 2) ab_M_X10_cubeAt 0 [(0, .ref 82), (1, .int (Int32.ofNat a))] [] h0 (fun r h' => ∃ x : Int32, r = some (.int x) ∧ lm_S h' ws co cl ∧ cm_F h0 h') := by
  have f0 : ab_lk [(0, Value.ref 82), (1, .int (Int32.ofNat a))] 0 = some (.ref 82) := rfl
  have f1 : ab_lk [(0, Value.ref 82), (1, .int (Int32.ofNat a))] 1 = some (.int (Int32.ofNat a)) := rfl
  generalize [(0, Value.ref 82), (1, .int (Int32.ofNat a))] = lv at f0 f1 ⊢
  have m9 := m
  obtain ⟨cv, pt, tr, ll, m0, mT⟩ := m
  refine go_s (pc' := 1) (lv' := lv) (st' := [.long 0]) (h' := h0) rfl rfl rfl ?_
  refine go_s (pc' := 2) (lv' := (ab_s2 2 (.long 0) lv)) (st' := []) (h' := h0) rfl rfl rfl ?_
  have f2 : ab_lk (ab_s2 2 (.long 0) lv) 2 = some (.long 0) := mk_s2s
  have f0 := mk_s2o (v := .long 0) (i := 2) f0 (by decide) (by decide) (fun q => absurd q.1 (by decide))
  have f1 := mk_s2o (v := .long 0) (i := 2) f1 (by decide) (by decide) (fun q => absurd q.2 (show ¬ (1 : Nat) = 2 by decide))
  generalize ab_s2 2 (.long 0) lv = lv1 at f0 f1 f2 ⊢
  refine go_s (pc' := 3) (lv' := lv1) (st' := [.ref 82]) (h' := h0) rfl rfl (ig_ald f0) ?_
  refine go_get (ci := 10) (k := 57) rfl m0.1 h57 ?_
  refine go_s (pc' := 8) (lv' := (ab_s1 4 (.int (Int32.ofNat J)) lv1)) (st' := []) (h' := h0) rfl rfl rfl ?_
  have f4 : ab_lk (ab_s1 4 (.int (Int32.ofNat J)) lv1) 4 = some (.int (Int32.ofNat J)) := mk_s1s
  have f0 := po_s1_other (v := .int (Int32.ofNat J)) (i := 4) f0 (by decide) (fun q => absurd q.1 (by decide))
  have f1 := po_s1_other (v := .int (Int32.ofNat J)) (i := 4) f1 (by decide) (fun q => absurd q.1 (by decide))
  have f2 := po_s1_other (v := .int (Int32.ofNat J)) (i := 4) f2 (by decide) (fun q => absurd q.1 (by decide))
  generalize ab_s1 4 (.int (Int32.ofNat J)) lv1 = lv2 at f0 f1 f2 f4 ⊢
  refine go_s (pc' := 9) (lv' := lv2) (st' := [.ref 82]) (h' := h0) rfl rfl (ig_ald f0) ?_
  refine go_get (ci := 10) (k := 58) rfl m0.1 h58 ?_
  refine go_s (pc' := 14) (lv' := (ab_s1 5 (.int (Int32.ofNat l)) lv2)) (st' := []) (h' := h0) rfl rfl rfl ?_
  have f5 : ab_lk (ab_s1 5 (.int (Int32.ofNat l)) lv2) 5 = some (.int (Int32.ofNat l)) := mk_s1s
  have f0 := po_s1_other (v := .int (Int32.ofNat l)) (i := 5) f0 (by decide) (fun q => absurd q.1 (by decide))
  have f1 := po_s1_other (v := .int (Int32.ofNat l)) (i := 5) f1 (by decide) (fun q => absurd q.1 (by decide))
  have f2 := po_s1_other (v := .int (Int32.ofNat l)) (i := 5) f2 (by decide) (fun q => absurd q.1 (by decide))
  have f4 := po_s1_other (v := .int (Int32.ofNat l)) (i := 5) f4 (by decide) (fun q => absurd q.2 (show ¬ (1 : Nat) = 2 by decide))
  generalize ab_s1 5 (.int (Int32.ofNat l)) lv2 = lv3 at f0 f1 f2 f4 f5 ⊢
  refine go_s (pc' := 15) (lv' := lv3) (st' := [.int 0]) (h' := h0) rfl rfl rfl ?_
  refine go_s (pc' := 17) (lv' := (ab_s1 6 (.int 0) lv3)) (st' := []) (h' := h0) rfl rfl rfl ?_
  have f6 : ab_lk (ab_s1 6 (.int 0) lv3) 6 = some (.int 0) := mk_s1s
  have f0 := po_s1_other (v := .int 0) (i := 6) f0 (by decide) (fun q => absurd q.1 (by decide))
  have f1 := po_s1_other (v := .int 0) (i := 6) f1 (by decide) (fun q => absurd q.1 (by decide))
  have f2 := po_s1_other (v := .int 0) (i := 6) f2 (by decide) (fun q => absurd q.1 (by decide))
  have f4 := po_s1_other (v := .int 0) (i := 6) f4 (by decide) (fun q => absurd q.1 (by decide))
  have f5 := po_s1_other (v := .int 0) (i := 6) f5 (by decide) (fun q => absurd q.2 (show ¬ (1 : Nat) = 2 by decide))
  generalize ab_s1 6 (.int 0) lv3 = lv4 at f0 f1 f2 f4 f5 f6 ⊢
  refine go_s (pc' := 18) (lv' := lv4) (st' := [.int 0]) (h' := h0) rfl rfl rfl ?_
  refine go_s (pc' := 20) (lv' := (ab_s1 7 (.int 0) lv4)) (st' := []) (h' := h0) rfl rfl rfl ?_
  have f7 : ab_lk (ab_s1 7 (.int 0) lv4) 7 = some (.int 0) := mk_s1s
  have f0 := po_s1_other (v := .int 0) (i := 7) f0 (by decide) (fun q => absurd q.1 (by decide))
  have f1 := po_s1_other (v := .int 0) (i := 7) f1 (by decide) (fun q => absurd q.1 (by decide))
  have f2 := po_s1_other (v := .int 0) (i := 7) f2 (by decide) (fun q => absurd q.1 (by decide))
  have f4 := po_s1_other (v := .int 0) (i := 7) f4 (by decide) (fun q => absurd q.1 (by decide))
  have f5 := po_s1_other (v := .int 0) (i := 7) f5 (by decide) (fun q => absurd q.1 (by decide))
  have f6 := po_s1_other (v := .int 0) (i := 7) f6 (by decide) (fun q => absurd q.2 (show ¬ (1 : Nat) = 2 by decide))
  generalize ab_s1 7 (.int 0) lv4 = lv5 at f0 f1 f2 f4 f5 f6 f7 ⊢
  refine ca_out (h0 := h0) hw hc h103 h50 hJ ha rfl (fun h x q1 q2 => ⟨x, rfl, q1, q2⟩) (a + 1) 0 0 0 (Int32.ofNat l) h0 lv5 (by omega) (Or.inl rfl) (by rw [mk_i (by omega)]; omega) (by rw [mk_i (by omega)]; exact hcan) (fun j hj z => ?_) m9 cm_F.rf f0 f1 f2 f4 f5 f6 f7
  rw [mk_i (by omega)] at z
  exact hmin j hj (mk_sub (fun i _ q => q) (by omega) (fun _ => True.intro) z)
end CA
