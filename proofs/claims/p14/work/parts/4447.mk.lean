section CM2
variable {d : Nat} {h0 : ab_H} {ws : List Value} {co : Nat → Int64} {cl : Nat → Int32} {n M : Nat} {on : Int64} {Q : Option Value → ab_H → Prop}
theorem cm_up.tr {D : Nat} {cv cv' : Nat → Int64} {pt tr ll pt' tr' ll' : Nat → Int32} (u : cm_up d h0 ws co cl M D Q cv pt tr ll) (e : cm_E D cv cv' pt pt' tr tr' ll ll') : cm_up d h0 ws co cl M D Q cv' pt' tr' ll' := fun cv2 pt2 tr2 ll2 h lv dp hd m e2 f0 f3 f5 => u cv2 pt2 tr2 ll2 h lv dp hd m (fun i hi => ⟨(e2 i hi).1.trans (e i hi).1, (e2 i hi).2.1.trans (e i hi).2.1, (e2 i hi).2.2.1.trans (e i hi).2.2.1, (e2 i hi).2.2.2.trans (e i hi).2.2.2⟩) f0 f3 f5
/-- the call's yes -/
def cm_T (h0 : ab_H) (ws : List Value) (co : Nat → Int64) (cl : Nat → Int32) (Q : Option Value → ab_H → Prop) : Prop := ∀ (cv' : Nat → Int64) (pt' tr' ll' : Nat → Int32) (h' : ab_H), cm_M h0 h' ws co cl cv' pt' tr' ll' → Q (some (.int 1)) h'
theorem cm_nat {x : Int32} {D : Nat} (hD : D < 2147483648) (h : x.toInt = D) : x = Int32.ofNat D := by
  apply Int32.toInt_inj.mp
  rw [h, mk_i hD]
theorem cm_v4 {v : Nat} (hv : v < 64) : ¬ (Int32.ofNat v).toInt = (-4 : Int32).toInt := by
  rw [mk_i (by omega)]
  show ¬ ((v : Int) = -4)
  omega
theorem cm_v1 {v : Nat} (hv : v < 64) : ¬ (Int32.ofNat v).toInt = (-1 : Int32).toInt := by
  rw [mk_i (by omega)]
  show ¬ ((v : Int) = -1)
  omega
/-- a level with a point, from the head to the scan -/
theorem cm_26 (hw : mw ws n on) {h : ab_H} {cv : Nat → Int64} {pt tr ll : Nat → Int32} (m : mm h ws co cl cv pt tr ll) {D v : Nat} (hD : D < 70) (hv : v < 64) (hp : pt D = Int32.ofNat v) (hl : ¬ mk_all on (cv D))
    (kk : ∀ lv : ab_L, ab_lk lv 0 = some (.ref 82) → ab_lk lv 3 = some (.int (Int32.ofNat M)) → ab_lk lv 5 = some (.int (Int32.ofNat D)) → ab_go d ab_M_X10_canMake 115 lv [] h Q) {lv : ab_L} (f0 : ab_lk lv 0 = some (.ref 82)) (f3 : ab_lk lv 3 = some (.int (Int32.ofNat M))) (f5 : ab_lk lv 5 = some (.int (Int32.ofNat D))) : ab_go d ab_M_X10_canMake 26 lv [] h Q := by
  refine go_s (pc' := 28) (lv' := lv) (st' := [.int (Int32.ofNat D)]) (h' := h) rfl rfl (po_ild (nL := 0) f5) ?_
  refine go_if (c := .lt) (off := 265) (tgt := 293) rfl rfl (fun q => ?_) (fun _ => ?_)
  · have q : (Int32.ofNat D).toInt < 0 := q
    rw [mk_i (by omega)] at q
    omega
  refine go_s (pc' := 32) (lv' := lv) (st' := [.ref 82]) (h' := h) rfl rfl (ig_ald f0) ?_
  refine go_get (ci := 10) (k := 47) rfl m.1 hw.2.1 ?_
  refine go_s (pc' := 36) (lv' := lv) (st' := [.ref 82, .long on]) (h' := h) rfl rfl (ig_ald f0) ?_
  refine go_get (ci := 10) (k := 53) rfl m.1 hw.2.2.2.2.2.1 ?_
  refine go_s (pc' := 41) (lv' := lv) (st' := [.int (Int32.ofNat D), .ref 106, .long on]) (h' := h) rfl rfl (po_ild (nL := 0) f5) ?_
  refine go_lal (v := cv D) rfl m.2.2.2.1 (mk_ix (by omega) (by omega)) (by rw [mk_cl (by omega)]) ?_
  refine go_s (pc' := 45) (lv' := lv) (st' := [.long (-1), .long (cv D), .long on]) (h' := h) rfl rfl rfl ?_
  refine go_s (pc' := 46) (lv' := lv) (st' := [.long ((cv D) ^^^ (-1)), .long on]) (h' := h) rfl rfl rfl ?_
  refine go_s (pc' := 47) (lv' := lv) (st' := [.long (on &&& ((cv D) ^^^ (-1)))]) (h' := h) rfl rfl rfl ?_
  refine go_s (pc' := 49) (lv' := (ab_s2 6 (.long (on &&& ((cv D) ^^^ (-1)))) lv)) (st' := []) (h' := h) rfl rfl rfl ?_
  have f6 : ab_lk (ab_s2 6 (.long (on &&& ((cv D) ^^^ (-1)))) lv) 6 = some (.long (on &&& ((cv D) ^^^ (-1)))) := mk_s2s
  have f0 := mk_s2o (v := .long (on &&& ((cv D) ^^^ (-1)))) (i := 6) f0 (by decide) (by decide) (fun q => absurd q.1 (by decide))
  have f3 := mk_s2o (v := .long (on &&& ((cv D) ^^^ (-1)))) (i := 6) f3 (by decide) (by decide) (fun q => absurd q.1 (by decide))
  have f5 := mk_s2o (v := .long (on &&& ((cv D) ^^^ (-1)))) (i := 6) f5 (by decide) (by decide) (fun q => absurd q.2 (show ¬ (1 : Nat) = 2 by decide))
  generalize ab_s2 6 (.long (on &&& ((cv D) ^^^ (-1)))) lv = lv1 at f0 f3 f5 f6 ⊢
  refine go_s (pc' := 51) (lv' := lv1) (st' := [.long (on &&& ((cv D) ^^^ (-1)))]) (h' := h) rfl rfl (mk_lld f6) ?_
  refine go_s (pc' := 52) (lv' := lv1) (st' := [.long 0, .long (on &&& ((cv D) ^^^ (-1)))]) (h' := h) rfl rfl rfl ?_
  refine go_s (pc' := 53) (lv' := lv1) (st' := [.int (lg_cmp (on &&& ((cv D) ^^^ (-1))) 0)]) (h' := h) rfl rfl rfl ?_
  refine go_ifl (c := .ne) (off := 5) (tgt := 58) rfl rfl (fun q => ?_) (fun q => ?_)
  rotate_left
  · have q0 : on &&& (cv D ^^^ -1) = 0 := Int64.toInt_inj.mp (Classical.not_not.mp q)
    exact absurd (mk_lacks.mp q0) hl
  refine go_s (pc' := 59) (lv' := lv1) (st' := [.ref 82]) (h' := h) rfl rfl (ig_ald f0) ?_
  refine go_get (ci := 10) (k := 54) rfl m.1 hw.2.2.2.2.2.2.1 ?_
  refine go_s (pc' := 64) (lv' := lv1) (st' := [.int (Int32.ofNat D), .ref 107]) (h' := h) rfl rfl (po_ild (nL := 0) f5) ?_
  refine go_ial (v := pt D) rfl m.2.2.2.2.1 (mk_ix (by omega) (by omega)) (by rw [mk_cl (by omega)]) ?_
  refine go_s (pc' := 67) (lv' := lv1) (st' := [.int (-4), .int (pt D)]) (h' := h) rfl rfl rfl ?_
  refine go_ic (c := .ne) (off := 48) (tgt := 115) rfl rfl (fun _ => kk _ f0 f3 f5) (fun q => ?_)
  exact absurd (Classical.not_not.mp (show ¬ ¬ (pt D).toInt = (-4 : Int32).toInt from q)) (by rw [hp]; exact cm_v4 hv)
/-- what a fresh level does, in a word -/
def cm_fresh (d : Nat) (h0 : ab_H) (ws : List Value) (co : Nat → Int64) (cl : Nat → Int32) (n M : Nat) (on : Int64) (Q : Option Value → ab_H → Prop) (j D : Nat) : Prop := ∀ (cv : Nat → Int64) (pt tr ll : Nat → Int32) (h : ab_H) (lv : ab_L), cm_M h0 h ws co cl cv pt tr ll → pt D = -4 → (0 ≤ (ll D).toInt ∧ (ll D).toInt ≤ 1000) → (mk_can n co (mk_G cl n) on j (cv D) (ll D).toInt → cm_T h0 ws co cl Q) → (¬ mk_can n co (mk_G cl n) on j (cv D) (ll D).toInt → cm_up d h0 ws co cl M D Q cv pt tr ll) → ab_lk lv 0 = some (.ref 82) → ab_lk lv 3 = some (.int (Int32.ofNat M)) → ab_lk lv 5 = some (.int (Int32.ofNat D)) → ab_go d ab_M_X10_canMake 26 lv [] h Q
theorem cm_lev (hw : mw ws n on) (hc : ∀ k, k < n → 0 ≤ (cl k).toInt ∧ (cl k).toInt ≤ 6) (hM : M ≤ 69) {D v : Nat} (hD : D ≤ M) (hv : v < 64) (ihD : D < M → cm_fresh d h0 ws co cl n M on Q (M - D - 1) (D + 1)) :
    ∀ (r t : Nat), t + r ≤ n → n ≤ t + r → ∀ (cv : Nat → Int64) (pt tr ll : Nat → Int32) (h : ab_H) (lv : ab_L), cm_M h0 h ws co cl cv pt tr ll → pt D = Int32.ofNat v → tr D = Int32.ofNat t → (0 ≤ (ll D).toInt ∧ (ll D).toInt ≤ 1000) → ¬ mk_all on (cv D) → (cm_R n M D co cl on (cv D) (ll D).toInt v t → cm_T h0 ws co cl Q) → (¬ cm_R n M D co cl on (cv D) (ll D).toInt v t → cm_up d h0 ws co cl M D Q cv pt tr ll) → ab_lk lv 0 = some (.ref 82) → ab_lk lv 3 = some (.int (Int32.ofNat M)) → ab_lk lv 5 = some (.int (Int32.ofNat D)) → ab_go d ab_M_X10_canMake 115 lv [] h Q := by
  have hn := hw.1
  intro r
  induction r using Nat.strongRecOn with
  | _ r ih =>
    intro t ht1 ht2 cv pt tr ll h lv m hp htr hll hla kT kU f0 f3 f5
    refine go_s (pc' := 116) (lv' := lv) (st' := [.ref 82]) (h' := h) rfl rfl (ig_ald f0) ?_
    refine go_get (ci := 10) (k := 54) rfl m.1.1 hw.2.2.2.2.2.2.1 ?_
    refine go_s (pc' := 121) (lv' := lv) (st' := [.int (Int32.ofNat D), .ref 107]) (h' := h) rfl rfl (po_ild (nL := 0) f5) ?_
    refine go_ial (v := pt D) rfl m.1.2.2.2.2.1 (mk_ix (by omega) (by omega)) (by rw [mk_cl (by omega)]) ?_
    refine go_s (pc' := 123) (lv' := lv) (st' := [.int (-1), .int (pt D)]) (h' := h) rfl rfl rfl ?_
    refine go_ic (c := .ne) (off := 10) (tgt := 133) rfl rfl (fun _ => ?_) (fun q => absurd (Classical.not_not.mp (show ¬ ¬ (pt D).toInt = (-1 : Int32).toInt from q)) (by rw [hp]; exact cm_v1 hv))
    refine go_s (pc' := 134) (lv' := lv) (st' := [.ref 82]) (h' := h) rfl rfl (ig_ald f0) ?_
    refine go_get (ci := 10) (k := 55) rfl m.1.1 hw.2.2.2.2.2.2.2.1 ?_
    refine go_s (pc' := 139) (lv' := lv) (st' := [.int (Int32.ofNat D), .ref 108]) (h' := h) rfl rfl (po_ild (nL := 0) f5) ?_
    refine go_ial (v := tr D) rfl m.1.2.2.2.2.2.1 (mk_ix (by omega) (by omega)) (by rw [mk_cl (by omega)]) ?_
    rw [htr]
    refine go_s (pc' := 142) (lv' := (ab_s1 8 (.int (Int32.ofNat t)) lv)) (st' := []) (h' := h) rfl rfl rfl ?_
    have f8 : ab_lk (ab_s1 8 (.int (Int32.ofNat t)) lv) 8 = some (.int (Int32.ofNat t)) := mk_s1s
    have f0 := po_s1_other (v := .int (Int32.ofNat t)) (i := 8) f0 (by decide) (fun q => absurd q.1 (by decide))
    have f3 := po_s1_other (v := .int (Int32.ofNat t)) (i := 8) f3 (by decide) (fun q => absurd q.1 (by decide))
    have f5 := po_s1_other (v := .int (Int32.ofNat t)) (i := 8) f5 (by decide) (fun q => absurd q.1 (by decide))
    generalize ab_s1 8 (.int (Int32.ofNat t)) lv = lv1 at f0 f3 f5 f8 ⊢
    refine cm_scan (M := M) hw m.1 (by omega) hv hp (fun k lv tk kn hok hno f0 f3 f5 f8 => ?_) (n - t) t lv1 (by omega) (Nat.le_refl _) (fun j h1 h2 => absurd h1 (by omega)) f0 f3 f5 f8
    refine cm_196 hw hc hM m hD kn hok hll (fun q => kU (fun ⟨k', h1, h2, h3, h4, _⟩ => ?_)) (fun hkn hDM cv' pt' tr' ll' h lv m' e ec ep el et ec1 ep1 el1 f0 f3 f5 => ?_) f0 f3 f5 f8
    · have : ¬ k < n := fun z => q ⟨z, h4⟩
      exact hno k' h1 (by omega) h3
    · have hok := hok hkn
      have hck := hc k hkn
      have hle := hok.2
      refine ihD hDM cv' pt' tr' ll' h lv m' ep1 ⟨by omega, by omega⟩ (fun hcan => kT ?_) (fun hno1 => ?_) f0 f3 f5
      · rw [ec1, el1] at hcan
        exact ⟨k, tk, hkn, hok, hDM, hcan⟩
      · intro cv2 pt2 tr2 ll2 h lv dp hdp m2 e2 f0 f3 f5
        have hdp2 : dp = Int32.ofNat D := cm_nat (by omega) (by omega)
        rw [hdp2] at f5
        obtain ⟨a1, a2, a3, a4⟩ := e2 D (by omega)
        rw [ec] at a1
        rw [ep] at a2
        rw [et] at a3
        rw [el] at a4
        refine cm_26 hw m2.1 (by omega) hv (a2.trans hp) (by rw [a1]; exact hla) (fun lv f0 f3 f5 => ?_) f0 f3 f5
        refine ih (n - (k + 1)) (by omega) (k + 1) (by omega) (by omega) cv2 pt2 tr2 ll2 h lv m2 (a2.trans hp) a3 (by rw [a4]; exact hll) (by rw [a1]; exact hla) ?_ ?_ f0 f3 f5
        · rw [a1, a4]
          exact fun ⟨k', h1, h2, h3⟩ => kT ⟨k', by omega, h2, h3⟩
        · rw [a1, a4]
          intro hR
          refine (kU (fun ⟨k', h1, h2, h3, h4, h5⟩ => ?_)).tr (fun i hi => ⟨(e2 i (by omega)).1.trans (e i hi).1, (e2 i (by omega)).2.1.trans (e i hi).2.1, (e2 i (by omega)).2.2.1.trans (e i hi).2.2.1, (e2 i (by omega)).2.2.2.trans (e i hi).2.2.2⟩)
          rcases Nat.lt_trichotomy k' k with q | q | q
          · exact hno k' h1 q h3
          · subst q
            rw [ec1, el1] at hno1
            exact hno1 h5
          · exact hR ⟨k', by omega, h2, h3, h4, h5⟩
end CM2
