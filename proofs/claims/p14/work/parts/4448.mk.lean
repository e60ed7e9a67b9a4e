theorem cm_cal_hp {h : ab_H} {X : Int64} {A B : Int32} {rest ws : List Value} (hw : (rest.map fun v => v.category).sum ≤ 8) (h82 : ab_rd h 82 = some (.inr (10, ws))) {i ix : Nat} : ab_cal ab_G (ab_c (.invokevirtual i) 0 194 3 ix) (.int B :: .int A :: .long X :: .ref 82 :: rest) h = some (ab_M_X10_isHopeless, [.ref 82, .long X, .int A, .int B], rest) := ab_cal_v (As := [.long X, .int A, .int B]) rfl (show ab_G 194 = some ab_M_X10_isHopeless from rfl) rfl h82 rfl rfl (by unfold ab_cok; rw [Bool.and_eq_true]; exact ⟨rfl, decide_eq_true hw⟩) rfl
theorem cm_cal_hd {h : ab_H} {X : Int64} {rest ws : List Value} (hw : (rest.map fun v => v.category).sum ≤ 8) (h82 : ab_rd h 82 = some (.inr (10, ws))) {i ix : Nat} : ab_cal ab_G (ab_c (.invokevirtual i) 0 195 1 ix) (.long X :: .ref 82 :: rest) h = some (ab_M_X10_hardest, [.ref 82, .long X], rest) := ab_cal_v (As := [.long X]) rfl (show ab_G 195 = some ab_M_X10_hardest from rfl) rfl h82 rfl rfl (by unfold ab_cok; rw [Bool.and_eq_true]; exact ⟨rfl, decide_eq_true hw⟩) rfl
theorem cm_up0 {f : Nat → Int32} {D : Nat} (hm : ∀ i, i < 70 → 0 ≤ (f i).toInt ∧ (f i).toInt ≤ 729) (i : Nat) (hi : i < 70) : 0 ≤ (upd f D 0 i).toInt ∧ (upd f D 0 i).toInt ≤ 729 := by
  unfold upd
  split
  · exact ⟨by decide, by decide⟩
  · exact hm i hi
section CM3
variable {d : Nat} {h0 : ab_H} {ws : List Value} {co : Nat → Int64} {cl : Nat → Int32} {n M : Nat} {on : Int64} {Q : Option Value → ab_H → Prop}
theorem cm_all_fresh (hw : mw ws n on) (hc : ∀ k, k < n → 0 ≤ (cl k).toInt ∧ (cl k).toInt ≤ 6) (hM : M ≤ 69) : ∀ (j D : Nat), D + j = M → cm_fresh (d + 1) h0 ws co cl n M on Q j D := by
  have hn := hw.1
  intro j
  induction j using Nat.strongRecOn with
  | _ j ih =>
    intro D hDj cv pt tr ll h lv m hp hll kT kU f0 f3 f5
    obtain ⟨m0, mF, mT⟩ := m
    refine go_s (pc' := 28) (lv' := lv) (st' := [.int (Int32.ofNat D)]) (h' := h) rfl rfl (po_ild (nL := 0) f5) ?_
    refine go_if (c := .lt) (off := 265) (tgt := 293) rfl rfl (fun q => ?_) (fun _ => ?_)
    · have q : (Int32.ofNat D).toInt < 0 := q
      rw [mk_i (by omega)] at q
      omega
    refine go_s (pc' := 32) (lv' := lv) (st' := [.ref 82]) (h' := h) rfl rfl (ig_ald f0) ?_
    refine go_get (ci := 10) (k := 47) rfl m0.1 hw.2.1 ?_
    refine go_s (pc' := 36) (lv' := lv) (st' := [.ref 82, .long on]) (h' := h) rfl rfl (ig_ald f0) ?_
    refine go_get (ci := 10) (k := 53) rfl m0.1 hw.2.2.2.2.2.1 ?_
    refine go_s (pc' := 41) (lv' := lv) (st' := [.int (Int32.ofNat D), .ref 106, .long on]) (h' := h) rfl rfl (po_ild (nL := 0) f5) ?_
    refine go_lal (v := cv D) rfl m0.2.2.2.1 (mk_ix (by omega) (by omega)) (by rw [mk_cl (by omega)]) ?_
    refine go_s (pc' := 45) (lv' := lv) (st' := [.long (-1), .long (cv D), .long on]) (h' := h) rfl rfl rfl ?_
    refine go_s (pc' := 46) (lv' := lv) (st' := [.long ((cv D) ^^^ (-1)), .long on]) (h' := h) rfl rfl rfl ?_
    refine go_s (pc' := 47) (lv' := lv) (st' := [.long (on &&& ((cv D) ^^^ (-1)))]) (h' := h) rfl rfl rfl ?_
    have hX : (on &&& (cv D ^^^ -1) = 0) ↔ mk_all on (cv D) := mk_lacks
    have hXf : ∀ i, i < 64 → mk_bt (on &&& (cv D ^^^ -1)) i = true → mk_bt on i = true ∧ mk_bt (cv D) i = false := fun i hi hb => by
      rw [mk_and, mk_not _ hi, Bool.and_eq_true, Bool.not_eq_true'] at hb
      exact hb
    generalize on &&& (cv D ^^^ -1) = X at hX hXf ⊢
    refine go_s (pc' := 49) (lv' := (ab_s2 6 (.long X) lv)) (st' := []) (h' := h) rfl rfl rfl ?_
    have f6 : ab_lk (ab_s2 6 (.long X) lv) 6 = some (.long X) := mk_s2s
    have f0 := mk_s2o (v := .long X) (i := 6) f0 (by decide) (by decide) (fun q => absurd q.1 (by decide))
    have f3 := mk_s2o (v := .long X) (i := 6) f3 (by decide) (by decide) (fun q => absurd q.1 (by decide))
    have f5 := mk_s2o (v := .long X) (i := 6) f5 (by decide) (by decide) (fun q => absurd q.2 (show ¬ (1 : Nat) = 2 by decide))
    generalize ab_s2 6 (.long X) lv = lv1 at f0 f3 f5 f6 ⊢
    refine go_s (pc' := 51) (lv' := lv1) (st' := [.long X]) (h' := h) rfl rfl (mk_lld f6) ?_
    refine go_s (pc' := 52) (lv' := lv1) (st' := [.long 0, .long X]) (h' := h) rfl rfl rfl ?_
    refine go_s (pc' := 53) (lv' := lv1) (st' := [.int (lg_cmp X 0)]) (h' := h) rfl rfl rfl ?_
    refine go_ifl (c := .ne) (off := 5) (tgt := 58) rfl rfl (fun q => ?_) (fun q => ?_)
    rotate_left
    · have q0 : X = 0 := Int64.toInt_inj.mp (Classical.not_not.mp q)
      refine go_s (pc' := 57) (lv' := lv1) (st' := [.int 1]) (h' := h) rfl rfl rfl ?_
      exact go_rz rfl rfl rfl (kT (mk_can_of_all (hX.mp q0)) cv pt tr ll h ⟨m0, mF, mT⟩)
    have hX0 : X ≠ 0 := fun z => q (congrArg Int64.toInt z)
    have hla : ¬ mk_all on (cv D) := fun z => hX0 (hX.mpr z)
    refine go_s (pc' := 59) (lv' := lv1) (st' := [.ref 82]) (h' := h) rfl rfl (ig_ald f0) ?_
    refine go_get (ci := 10) (k := 54) rfl m0.1 hw.2.2.2.2.2.2.1 ?_
    refine go_s (pc' := 64) (lv' := lv1) (st' := [.int (Int32.ofNat D), .ref 107]) (h' := h) rfl rfl (po_ild (nL := 0) f5) ?_
    refine go_ial (v := pt D) rfl m0.2.2.2.2.1 (mk_ix (by omega) (by omega)) (by rw [mk_cl (by omega)]) ?_
    refine go_s (pc' := 67) (lv' := lv1) (st' := [.int (-4), .int (pt D)]) (h' := h) rfl rfl rfl ?_
    refine go_ic (c := .ne) (off := 48) (tgt := 115) rfl rfl (fun q => absurd (by rw [hp]) q) (fun _ => ?_)
    refine go_s (pc' := 71) (lv' := lv1) (st' := [.ref 82]) (h' := h) rfl rfl (ig_ald f0) ?_
    refine go_get (ci := 10) (k := 54) rfl m0.1 hw.2.2.2.2.2.2.1 ?_
    refine go_s (pc' := 76) (lv' := lv1) (st' := [.int (Int32.ofNat D), .ref 107]) (h' := h) rfl rfl (po_ild (nL := 0) f5) ?_
    refine go_s (pc' := 77) (lv' := lv1) (st' := [.ref 82, .int (Int32.ofNat D), .ref 107]) (h' := h) rfl rfl (ig_ald f0) ?_
    refine go_s (pc' := 79) (lv' := lv1) (st' := [.long X, .ref 82, .int (Int32.ofNat D), .ref 107]) (h' := h) rfl rfl (mk_lld f6) ?_
    refine go_s (pc' := 80) (lv' := lv1) (st' := [.int (Int32.ofNat M), .long X, .ref 82, .int (Int32.ofNat D), .ref 107]) (h' := h) rfl rfl (po_ild (nL := 0) f3) ?_
    refine go_s (pc' := 82) (lv' := lv1) (st' := [.int (Int32.ofNat D), .int (Int32.ofNat M), .long X, .ref 82, .int (Int32.ofNat D), .ref 107]) (h' := h) rfl rfl (po_ild (nL := 0) f5) ?_
    refine go_s (pc' := 83) (lv' := lv1) (st' := [.int ((Int32.ofNat M) - (Int32.ofNat D)), .long X, .ref 82, .int (Int32.ofNat D), .ref 107]) (h' := h) rfl rfl rfl ?_
    refine go_s (pc' := 84) (lv' := lv1) (st' := [.ref 82, .int ((Int32.ofNat M) - (Int32.ofNat D)), .long X, .ref 82, .int (Int32.ofNat D), .ref 107]) (h' := h) rfl rfl (ig_ald f0) ?_
    refine go_get (ci := 10) (k := 56) rfl m0.1 hw.2.2.2.2.2.2.2.2 ?_
    refine go_s (pc' := 89) (lv' := lv1) (st' := [.int (Int32.ofNat D), .ref 109, .int ((Int32.ofNat M) - (Int32.ofNat D)), .long X, .ref 82, .int (Int32.ofNat D), .ref 107]) (h' := h) rfl rfl (po_ild (nL := 0) f5) ?_
    refine go_ial (v := ll D) rfl m0.2.2.2.2.2.2 (mk_ix (by omega) (by omega)) (by rw [mk_cl (by omega)]) ?_
    refine go_c rfl rfl (cm_cal_hp (rest := [.int (Int32.ofNat D), .ref 107]) (show 1 + (1 + 0) ≤ 8 by decide) m0.1) rfl (hp_run m0 hw hc d X (Int32.ofNat M - Int32.ofNat D) (ll D)) (fun r h' hr => ?_)
    obtain ⟨rfl, b, rfl, hb⟩ := hr
    have hMD : (Int32.ofNat M - Int32.ofNat D).toInt = (j : Int) := by
      rw [Int32.toInt_sub, mk_i (by omega), mk_i (by omega), sx_bm (by omega) (by omega)]
      omega
    unfold hp_R at hb
    rw [hMD] at hb
    show ab_go (d + 1) ab_M_X10_canMake 93 _ [.int b, .int (Int32.ofNat D), .ref 107] _ Q
    refine go_if (c := .eq) (off := 7) (tgt := 100) rfl rfl (fun qb => ?_) (fun qb => ?_)
    rotate_left
    · refine go_s (pc' := 97) (lv' := lv1) (st' := [.int (-1), .int (Int32.ofNat D), .ref 107]) (h' := h') rfl rfl rfl ?_
      refine go_goto (off := 9) (tgt := 106) rfl rfl ?_
      refine go_ias rfl m0.2.2.2.2.1 (mk_ix (by omega) (by omega)) (by decide) ?_
      rw [mk_cl (show D < 2147483648 by omega)]
      have m1 := m0.w107 (upd pt D (-1))
      refine go_s (pc' := 108) (lv' := lv1) (st' := [.ref 82]) (h' := (ab_wr h' 107 (.inl (0, 70, .inl (upd pt D (-1)))))) rfl rfl (ig_ald f0) ?_
      refine go_get (ci := 10) (k := 55) rfl m1.1 hw.2.2.2.2.2.2.2.1 ?_
      refine go_s (pc' := 113) (lv' := lv1) (st' := [.int (Int32.ofNat D), .ref 108]) (h' := (ab_wr h' 107 (.inl (0, 70, .inl (upd pt D (-1)))))) rfl rfl (po_ild (nL := 0) f5) ?_
      refine go_s (pc' := 114) (lv' := lv1) (st' := [.int 0, .int (Int32.ofNat D), .ref 108]) (h' := (ab_wr h' 107 (.inl (0, 70, .inl (upd pt D (-1)))))) rfl rfl rfl ?_
      refine go_ias rfl m1.2.2.2.2.2.1 (mk_ix (by omega) (by omega)) (by decide) ?_
      rw [mk_cl (show D < 2147483648 by omega)]
      have m2 := m1.w108 (upd tr D 0)
      refine go_s (pc' := 116) (lv' := lv1) (st' := [.ref 82]) (h' := (ab_wr (ab_wr h' 107 (.inl (0, 70, .inl (upd pt D (-1))))) 108 (.inl (0, 70, .inl (upd tr D 0))))) rfl rfl (ig_ald f0) ?_
      refine go_get (ci := 10) (k := 54) rfl m2.1 hw.2.2.2.2.2.2.1 ?_
      refine go_s (pc' := 121) (lv' := lv1) (st' := [.int (Int32.ofNat D), .ref 107]) (h' := (ab_wr (ab_wr h' 107 (.inl (0, 70, .inl (upd pt D (-1))))) 108 (.inl (0, 70, .inl (upd tr D 0))))) rfl rfl (po_ild (nL := 0) f5) ?_
      refine go_ial (v := (upd pt D (-1)) D) rfl m2.2.2.2.2.1 (mk_ix (by omega) (by omega)) (by rw [mk_cl (by omega)]) ?_
      refine go_s (pc' := 123) (lv' := lv1) (st' := [.int (-1), .int ((upd pt D (-1)) D)]) (h' := (ab_wr (ab_wr h' 107 (.inl (0, 70, .inl (upd pt D (-1))))) 108 (.inl (0, 70, .inl (upd tr D 0))))) rfl rfl rfl ?_
      refine go_ic (c := .ne) (off := 10) (tgt := 133) rfl rfl (fun q => absurd (congrArg Int32.toInt (show upd pt D (-1) D = -1 from if_pos rfl)) q) (fun _ => ?_)
      refine go_s (pc' := 127) (lv' := lv1) (st' := [.ref 82]) (h' := (ab_wr (ab_wr h' 107 (.inl (0, 70, .inl (upd pt D (-1))))) 108 (.inl (0, 70, .inl (upd tr D 0))))) rfl rfl (ig_ald f0) ?_
      refine go_get (ci := 10) (k := 49) rfl m2.1 hw.2.2.1 ?_
      refine go_goto (off := 10) (tgt := 140) rfl rfl ?_
      refine go_s (pc' := 142) (lv' := (ab_s1 8 (.int (Int32.ofNat n)) lv1)) (st' := []) (h' := (ab_wr (ab_wr h' 107 (.inl (0, 70, .inl (upd pt D (-1))))) 108 (.inl (0, 70, .inl (upd tr D 0))))) rfl rfl rfl ?_
      have f8 : ab_lk (ab_s1 8 (.int (Int32.ofNat n)) lv1) 8 = some (.int (Int32.ofNat n)) := mk_s1s
      have f0 := po_s1_other (v := .int (Int32.ofNat n)) (i := 8) f0 (by decide) (fun q => absurd q.1 (by decide))
      have f3 := po_s1_other (v := .int (Int32.ofNat n)) (i := 8) f3 (by decide) (fun q => absurd q.1 (by decide))
      have f5 := po_s1_other (v := .int (Int32.ofNat n)) (i := 8) f5 (by decide) (fun q => absurd q.1 (by decide))
      have f6 := po_s1_other (v := .int (Int32.ofNat n)) (i := 8) f6 (by decide) (fun q => absurd q.1 (by decide))
      generalize ab_s1 8 (.int (Int32.ofNat n)) lv1 = lv2 at f0 f3 f5 f6 f8 ⊢
      refine go_s (pc' := 144) (lv' := lv2) (st' := [.int (Int32.ofNat n)]) (h' := (ab_wr (ab_wr h' 107 (.inl (0, 70, .inl (upd pt D (-1))))) 108 (.inl (0, 70, .inl (upd tr D 0))))) rfl rfl (po_ild (nL := 0) f8) ?_
      refine go_s (pc' := 145) (lv' := lv2) (st' := [.ref 82, .int (Int32.ofNat n)]) (h' := (ab_wr (ab_wr h' 107 (.inl (0, 70, .inl (upd pt D (-1))))) 108 (.inl (0, 70, .inl (upd tr D 0))))) rfl rfl (ig_ald f0) ?_
      refine go_get (ci := 10) (k := 49) rfl m2.1 hw.2.2.1 ?_
      refine go_ic (c := .ge) (off := 48) (tgt := 196) rfl rfl (fun _ => ?_) (fun q => absurd (Int.le_refl _) q)
      have hno : ¬ mk_can n co (mk_G cl n) on j (cv D) (ll D).toInt := fun hcan => by
        rcases hb with hb | ⟨_, a, g, hlb, hx⟩
        · exact qb (by rw [hb]; rfl)
        · have := hlb j (cv D) (ll D).toInt hll.1 hXf hcan
          omega
      exact cm_196 (v := 0) hw hc hM ⟨m2, (mF.wr (by decide) _).wr (by decide) _, cm_up0 mT⟩ (show D ≤ M by omega) (Nat.le_refl n) (fun q => absurd q (Nat.lt_irrefl _)) hll (fun _ => (kU hno).tr (fun i hi => ⟨rfl, if_neg (by omega), if_neg (by omega), rfl⟩)) (fun q => absurd q (Nat.lt_irrefl _)) f0 f3 f5 f8
    · refine go_s (pc' := 101) (lv' := lv1) (st' := [.ref 82, .int (Int32.ofNat D), .ref 107]) (h' := h') rfl rfl (ig_ald f0) ?_
      refine go_s (pc' := 103) (lv' := lv1) (st' := [.long X, .ref 82, .int (Int32.ofNat D), .ref 107]) (h' := h') rfl rfl (mk_lld f6) ?_
      refine go_c rfl rfl (cm_cal_hd (rest := [.int (Int32.ofNat D), .ref 107]) (show 1 + (1 + 0) ≤ 8 by decide) m0.1) rfl (hd_run m0 hw d X) (fun r h2 hr => ?_)
      obtain ⟨rfl, b2, rfl, hb2⟩ := hr
      rcases hb2 with ⟨_, hb2⟩ | ⟨u, hu, rfl, hbu⟩
      · exact absurd hb2 hX0
      show ab_go (d + 1) ab_M_X10_canMake 106 _ [.int (Int32.ofNat u), .int (Int32.ofNat D), .ref 107] _ Q
      refine go_ias rfl m0.2.2.2.2.1 (mk_ix (by omega) (by omega)) (by decide) ?_
      rw [mk_cl (show D < 2147483648 by omega)]
      have m1 := m0.w107 (upd pt D (Int32.ofNat u))
      refine go_s (pc' := 108) (lv' := lv1) (st' := [.ref 82]) (h' := (ab_wr h2 107 (.inl (0, 70, .inl (upd pt D (Int32.ofNat u)))))) rfl rfl (ig_ald f0) ?_
      refine go_get (ci := 10) (k := 55) rfl m1.1 hw.2.2.2.2.2.2.2.1 ?_
      refine go_s (pc' := 113) (lv' := lv1) (st' := [.int (Int32.ofNat D), .ref 108]) (h' := (ab_wr h2 107 (.inl (0, 70, .inl (upd pt D (Int32.ofNat u)))))) rfl rfl (po_ild (nL := 0) f5) ?_
      refine go_s (pc' := 114) (lv' := lv1) (st' := [.int 0, .int (Int32.ofNat D), .ref 108]) (h' := (ab_wr h2 107 (.inl (0, 70, .inl (upd pt D (Int32.ofNat u)))))) rfl rfl rfl ?_
      refine go_ias rfl m1.2.2.2.2.2.1 (mk_ix (by omega) (by omega)) (by decide) ?_
      rw [mk_cl (show D < 2147483648 by omega)]
      have m2 := m1.w108 (upd tr D 0)
      have hbu2 := hXf u hu hbu
      refine cm_lev hw hc hM (show D ≤ M by omega) hu (fun q => ?_) n 0 (by omega) (by omega) cv _ _ ll _ _ ⟨m2, (mF.wr (by decide) _).wr (by decide) _, cm_up0 mT⟩ (if_pos rfl) (if_pos rfl) hll hla (fun hR => kT ?_) (fun hR => (kU (fun hcan => hR ?_)).tr (fun i hi => ⟨rfl, if_neg (by omega), if_neg (by omega), rfl⟩)) f0 f3 f5
      · have e : M - D - 1 = j - 1 := by omega
        rw [e]
        exact ih (j - 1) (by omega) (D + 1) (by omega)
      · obtain ⟨k, _, hk, ok, hlt, hcan⟩ := hR
        obtain ⟨i, rfl⟩ : ∃ i, j = i + 1 := ⟨j - 1, by omega⟩
        rw [show M - D - 1 = i by omega] at hcan
        exact Or.inr ⟨k, hk, by rw [mk_Glt hk]; exact ok.2, by rw [mk_Glt hk]; exact hcan⟩
      · obtain ⟨i, rfl, k, hk, hbk, hle, hcan⟩ := mk_pick (fun k => (mk_Gok hc k).1) hu hbu2.1 hbu2.2 hcan
        rw [mk_Glt hk] at hle hcan
        exact ⟨k, Nat.zero_le _, hk, ⟨hbk, hle⟩, by omega, by rw [show M - D - 1 = i by omega]; exact hcan⟩
/-- the whole call -/
theorem cm_run {h : ab_H} {cv : Nat → Int64} {pt tr ll : Nat → Int32} (hw : mw ws n on) (hc : ∀ k, k < n → 0 ≤ (cl k).toInt ∧ (cl k).toInt ≤ 6) (m : cm_M h0 h ws co cl cv pt tr ll) (d : Nat) (hM : M ≤ 69) (has : Int64) (left : Int32) (hll : 0 ≤ left.toInt ∧ left.toInt ≤ 1000) : ab_go (d + 1) ab_M_X10_canMake 0 [(0, .ref 82), (1, .long has), (3, .int (Int32.ofNat M)), (4, .int left)] [] h (fun r h' => (∃ (cv' : Nat → Int64) (pt' tr' ll' : Nat → Int32), cm_M h0 h' ws co cl cv' pt' tr' ll') ∧ ∃ b : Int32, r = some (.int b) ∧ ((b = 1 ∧ mk_can n co (mk_G cl n) on M has left.toInt) ∨ (b = 0 ∧ ¬ mk_can n co (mk_G cl n) on M has left.toInt))) := by
  have f0 : ab_lk [(0, Value.ref 82), (1, .long has), (3, .int (Int32.ofNat M)), (4, .int left)] 0 = some (.ref 82) := rfl
  have f1 : ab_lk [(0, Value.ref 82), (1, .long has), (3, .int (Int32.ofNat M)), (4, .int left)] 1 = some (.long has) := rfl
  have f3 : ab_lk [(0, Value.ref 82), (1, .long has), (3, .int (Int32.ofNat M)), (4, .int left)] 3 = some (.int (Int32.ofNat M)) := rfl
  have f4 : ab_lk [(0, Value.ref 82), (1, .long has), (3, .int (Int32.ofNat M)), (4, .int left)] 4 = some (.int left) := rfl
  generalize [(0, Value.ref 82), (1, .long has), (3, .int (Int32.ofNat M)), (4, .int left)] = lv at f0 f1 f3 f4 ⊢
  obtain ⟨m0, mF, mT⟩ := m
  refine go_s (pc' := 1) (lv' := lv) (st' := [.int 0]) (h' := h) rfl rfl rfl ?_
  refine go_s (pc' := 3) (lv' := (ab_s1 5 (.int 0) lv)) (st' := []) (h' := h) rfl rfl rfl ?_
  have f5 : ab_lk (ab_s1 5 (.int 0) lv) 5 = some (.int 0) := mk_s1s
  have f0 := po_s1_other (v := .int 0) (i := 5) f0 (by decide) (fun q => absurd q.1 (by decide))
  have f1 := po_s1_other (v := .int 0) (i := 5) f1 (by decide) (fun q => absurd q.1 (by decide))
  have f3 := po_s1_other (v := .int 0) (i := 5) f3 (by decide) (fun q => absurd q.1 (by decide))
  have f4 := po_s1_other (v := .int 0) (i := 5) f4 (by decide) (fun q => absurd q.2 (show ¬ (1 : Nat) = 2 by decide))
  generalize ab_s1 5 (.int 0) lv = lv1 at f0 f1 f3 f4 f5 ⊢
  refine go_s (pc' := 4) (lv' := lv1) (st' := [.ref 82]) (h' := h) rfl rfl (ig_ald f0) ?_
  refine go_get (ci := 10) (k := 53) rfl m0.1 hw.2.2.2.2.2.1 ?_
  refine go_s (pc' := 8) (lv' := lv1) (st' := [.int 0, .ref 106]) (h' := h) rfl rfl rfl ?_
  refine go_s (pc' := 9) (lv' := lv1) (st' := [.long has, .int 0, .ref 106]) (h' := h) rfl rfl (mk_lld f1) ?_
  refine go_las rfl m0.2.2.2.1 (by decide) (by decide) ?_
  show ab_go _ _ _ _ _ (ab_wr h 106 (.inl (2, 70, .inr (.inl (vp_updL cv 0 has))))) _
  have m1 := m0.w106 (vp_updL cv 0 has)
  refine go_s (pc' := 11) (lv' := lv1) (st' := [.ref 82]) (h' := (ab_wr h 106 (.inl (2, 70, .inr (.inl (vp_updL cv 0 has)))))) rfl rfl (ig_ald f0) ?_
  refine go_get (ci := 10) (k := 56) rfl m1.1 hw.2.2.2.2.2.2.2.2 ?_
  refine go_s (pc' := 15) (lv' := lv1) (st' := [.int 0, .ref 109]) (h' := (ab_wr h 106 (.inl (2, 70, .inr (.inl (vp_updL cv 0 has)))))) rfl rfl rfl ?_
  refine go_s (pc' := 17) (lv' := lv1) (st' := [.int left, .int 0, .ref 109]) (h' := (ab_wr h 106 (.inl (2, 70, .inr (.inl (vp_updL cv 0 has)))))) rfl rfl (po_ild (nL := 0) f4) ?_
  refine go_ias rfl m1.2.2.2.2.2.2 (by decide) (by decide) ?_
  show ab_go _ _ _ _ _ (ab_wr (ab_wr h 106 (.inl (2, 70, .inr (.inl (vp_updL cv 0 has))))) 109 (.inl (0, 70, .inl (upd ll 0 left)))) _
  have m2 := m1.w109 (upd ll 0 left)
  refine go_s (pc' := 19) (lv' := lv1) (st' := [.ref 82]) (h' := (ab_wr (ab_wr h 106 (.inl (2, 70, .inr (.inl (vp_updL cv 0 has))))) 109 (.inl (0, 70, .inl (upd ll 0 left))))) rfl rfl (ig_ald f0) ?_
  refine go_get (ci := 10) (k := 54) rfl m2.1 hw.2.2.2.2.2.2.1 ?_
  refine go_s (pc' := 23) (lv' := lv1) (st' := [.int 0, .ref 107]) (h' := (ab_wr (ab_wr h 106 (.inl (2, 70, .inr (.inl (vp_updL cv 0 has))))) 109 (.inl (0, 70, .inl (upd ll 0 left))))) rfl rfl rfl ?_
  refine go_s (pc' := 25) (lv' := lv1) (st' := [.int (-4), .int 0, .ref 107]) (h' := (ab_wr (ab_wr h 106 (.inl (2, 70, .inr (.inl (vp_updL cv 0 has))))) 109 (.inl (0, 70, .inl (upd ll 0 left))))) rfl rfl rfl ?_
  refine go_ias rfl m2.2.2.2.2.1 (by decide) (by decide) ?_
  show ab_go _ _ _ _ _ (ab_wr (ab_wr (ab_wr h 106 (.inl (2, 70, .inr (.inl (vp_updL cv 0 has))))) 109 (.inl (0, 70, .inl (upd ll 0 left)))) 107 (.inl (0, 70, .inl (upd pt 0 (-4))))) _
  have m3 := m2.w107 (upd pt 0 (-4))
  have f5 : ab_lk lv1 5 = some (.int (Int32.ofNat 0)) := f5
  refine cm_all_fresh hw hc hM M 0 (by omega) _ _ _ _ _ _ ⟨m3, ((mF.wr (by decide) _).wr (by decide) _).wr (by decide) _, mT⟩ (if_pos rfl) hll (fun hcan cv' pt' tr' ll' h' m' => ⟨⟨cv', pt', tr', ll', m'⟩, 1, rfl, Or.inl ⟨rfl, hcan⟩⟩) (fun hno => ?_) f0 f3 f5
  intro cv' pt' tr' ll' h lv dp hdp m' _ f0 f3 f5
  refine go_s (pc' := 28) (lv' := lv) (st' := [.int dp]) (h' := h) rfl rfl (po_ild (nL := 0) f5) ?_
  refine go_if (c := .lt) (off := 265) (tgt := 293) rfl rfl (fun _ => ?_) (fun q => absurd (show dp.toInt < 0 by omega) q)
  refine go_s (pc' := 294) (lv' := lv) (st' := [.int 0]) (h' := h) rfl rfl rfl ?_
  exact go_rz rfl rfl rfl ⟨⟨cv', pt', tr', ll', m'⟩, 0, rfl, Or.inr ⟨rfl, hno⟩⟩
end CM3
