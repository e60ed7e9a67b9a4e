/-! ===== canMake: says whether it can be made ===== -/
/-- only the four rows of the search are written -/
def cm_F (h0 h : ab_H) : Prop := h.1 = h0.1 ∧ h.2.1 = h0.2.1 ∧ ∀ a, (a < 106 ∨ 109 < a) → h.2.2 a = h0.2.2 a
theorem cm_F.rf {h : ab_H} : cm_F h h := ⟨rfl, rfl, fun _ _ => rfl⟩
theorem cm_F.wr {h0 h : ab_H} (q : cm_F h0 h) {a : Nat} (ha : 106 ≤ a ∧ a ≤ 109) (e : ab_E) : cm_F h0 (ab_wr h a e) := ⟨q.1, q.2.1, fun b hb => (va_up_ne h.2.2 e (by omega)).trans (q.2.2 b hb)⟩
theorem cm_ci {x y : Int32} {v w : Nat} (hv : v < 2147483648) (hw : w < 2147483648) (hx : x = Int32.ofNat v) (hy : y = Int32.ofNat w) : (y.toInt ≤ x.toInt ↔ w ≤ v) := by
  rw [hx, hy, mk_i hv, mk_i hw]
  omega
section CM
variable {d : Nat} {h0 : ab_H} {ws : List Value} {co : Nat → Int64} {cl : Nat → Int32} {n M : Nat} {on : Int64} {Q : Option Value → ab_H → Prop}
/-- the memory of the search -/
def cm_M (h0 h : ab_H) (ws : List Value) (co : Nat → Int64) (cl : Nat → Int32) (cv : Nat → Int64) (pt tr ll : Nat → Int32) : Prop := mm h ws co cl cv pt tr ll ∧ cm_F h0 h ∧ ∀ i, i < 70 → 0 ≤ (tr i).toInt ∧ (tr i).toInt ≤ 729
/-- rows that are the same below a level -/
def cm_E (D : Nat) (cv cv' : Nat → Int64) (pt pt' tr tr' ll ll' : Nat → Int32) : Prop := ∀ i, i < D → cv' i = cv i ∧ pt' i = pt i ∧ tr' i = tr i ∧ ll' i = ll i
def cm_ok (co : Nat → Int64) (cl : Nat → Int32) (v : Nat) (left : Int) (k : Nat) : Prop := mk_bt (co k) v = true ∧ (cl k).toInt ≤ left
/-- what is left to be tried at a level with a point -/
def cm_R (n M D : Nat) (co : Nat → Int64) (cl : Nat → Int32) (on has : Int64) (left : Int) (v t : Nat) : Prop := ∃ k, t ≤ k ∧ k < n ∧ cm_ok co cl v left k ∧ D < M ∧ mk_can n co (mk_G cl n) on (M - D - 1) (has ||| co k) (left - (cl k).toInt)
/-- back at the head, one level up -/
def cm_up (d : Nat) (h0 : ab_H) (ws : List Value) (co : Nat → Int64) (cl : Nat → Int32) (M D : Nat) (Q : Option Value → ab_H → Prop) (cv : Nat → Int64) (pt tr ll : Nat → Int32) : Prop := ∀ (cv' : Nat → Int64) (pt' tr' ll' : Nat → Int32) (h : ab_H) (lv : ab_L) (dp : Int32), dp.toInt = (D : Int) - 1 → cm_M h0 h ws co cl cv' pt' tr' ll' → cm_E D cv cv' pt pt' tr tr' ll ll' → ab_lk lv 0 = some (.ref 82) → ab_lk lv 3 = some (.int (Int32.ofNat M)) → ab_lk lv 5 = some (.int dp) → ab_go d ab_M_X10_canMake 26 lv [] h Q
/-- the next cube that may do -/
theorem cm_scan (hw : mw ws n on) {h : ab_H} {cv : Nat → Int64} {pt tr ll : Nat → Int32} (m : mm h ws co cl cv pt tr ll) {D v : Nat} (hD : D < 70) (hv : v < 64) (hp : pt D = Int32.ofNat v) {t : Nat}
    (kk : ∀ (k : Nat) (lv : ab_L), t ≤ k → k ≤ n → (k < n → cm_ok co cl v (ll D).toInt k) → (∀ j, t ≤ j → j < k → ¬ cm_ok co cl v (ll D).toInt j) → ab_lk lv 0 = some (.ref 82) → ab_lk lv 3 = some (.int (Int32.ofNat M)) → ab_lk lv 5 = some (.int (Int32.ofNat D)) → ab_lk lv 8 = some (.int (Int32.ofNat k)) → ab_go d ab_M_X10_canMake 196 lv [] h Q) :
    ∀ (r k : Nat) (lv : ab_L), k + r = n → t ≤ k → (∀ j, t ≤ j → j < k → ¬ cm_ok co cl v (ll D).toInt j) → ab_lk lv 0 = some (.ref 82) → ab_lk lv 3 = some (.int (Int32.ofNat M)) → ab_lk lv 5 = some (.int (Int32.ofNat D)) → ab_lk lv 8 = some (.int (Int32.ofNat k)) → ab_go d ab_M_X10_canMake 142 lv [] h Q := by
  have hn := hw.1
  intro r
  induction r with
  | zero =>
    intro k lv hk ht hno f0 f3 f5 f8
    refine go_s (pc' := 144) (lv' := lv) (st' := [.int (Int32.ofNat k)]) (h' := h) rfl rfl (po_ild (nL := 0) f8) ?_
    refine go_s (pc' := 145) (lv' := lv) (st' := [.ref 82, .int (Int32.ofNat k)]) (h' := h) rfl rfl (ig_ald f0) ?_
    refine go_get (ci := 10) (k := 49) rfl m.1 hw.2.2.1 ?_
    refine go_ic (c := .ge) (off := 48) (tgt := 196) rfl rfl (fun _ => kk k lv ht (by omega) (fun q => by omega) hno f0 f3 f5 f8) (fun q => ?_)
    exact absurd (show (Int32.ofNat n).toInt ≤ (Int32.ofNat k).toInt by rw [mk_i (by omega), mk_i (by omega)]; omega) q
  | succ r ih =>
    intro k lv hk ht hno f0 f3 f5 f8
    refine go_s (pc' := 144) (lv' := lv) (st' := [.int (Int32.ofNat k)]) (h' := h) rfl rfl (po_ild (nL := 0) f8) ?_
    refine go_s (pc' := 145) (lv' := lv) (st' := [.ref 82, .int (Int32.ofNat k)]) (h' := h) rfl rfl (ig_ald f0) ?_
    refine go_get (ci := 10) (k := 49) rfl m.1 hw.2.2.1 ?_
    refine go_ic (c := .ge) (off := 48) (tgt := 196) rfl rfl (fun q => ?_) (fun _ => ?_)
    · have q : (Int32.ofNat n).toInt ≤ (Int32.ofNat k).toInt := q
      rw [mk_i (by omega), mk_i (by omega)] at q
      omega
    · refine go_s (pc' := 152) (lv' := lv) (st' := [.ref 82]) (h' := h) rfl rfl (ig_ald f0) ?_
      refine go_get (ci := 10) (k := 51) rfl m.1 hw.2.2.2.1 ?_
      refine go_s (pc' := 157) (lv' := lv) (st' := [.int (Int32.ofNat k), .ref 104]) (h' := h) rfl rfl (po_ild (nL := 0) f8) ?_
      refine go_lal (v := co k) rfl m.2.1 (mk_ix (by omega) (by omega)) (by rw [mk_cl (by omega)]) ?_
      refine go_s (pc' := 159) (lv' := lv) (st' := [.ref 82, .long (co k)]) (h' := h) rfl rfl (ig_ald f0) ?_
      refine go_get (ci := 10) (k := 54) rfl m.1 hw.2.2.2.2.2.2.1 ?_
      refine go_s (pc' := 164) (lv' := lv) (st' := [.int (Int32.ofNat D), .ref 107, .long (co k)]) (h' := h) rfl rfl (po_ild (nL := 0) f5) ?_
      refine go_ial (v := pt D) rfl m.2.2.2.2.1 (mk_ix (by omega) (by omega)) (by rw [mk_cl (by omega)]) ?_
      refine go_s (pc' := 166) (lv' := lv) (st' := [.long (co k >>> ((Int32.ofNat v).toInt64 &&& 63))]) (h' := h) rfl rfl (by rw [hp]; rfl) ?_
      refine go_s (pc' := 167) (lv' := lv) (st' := [.long 1, .long (co k >>> ((Int32.ofNat v).toInt64 &&& 63))]) (h' := h) rfl rfl rfl ?_
      refine go_s (pc' := 168) (lv' := lv) (st' := [.long (if mk_bt (co k) v = true then 1 else 0)]) (h' := h) rfl rfl (by rw [← mk_bit (co k) hv]; rfl) ?_
      refine go_s (pc' := 169) (lv' := lv) (st' := [.long 0, .long (if mk_bt (co k) v = true then 1 else 0)]) (h' := h) rfl rfl rfl ?_
      refine go_s (pc' := 170) (lv' := lv) (st' := [.int (lg_cmp (if mk_bt (co k) v = true then 1 else 0) 0)]) (h' := h) rfl rfl rfl ?_
      refine go_ifl (c := .eq) (off := 20) (tgt := 190) rfl rfl (fun q => ?_) (fun q => ?_)
      · have hb := (mk_cmp0 (mk_bt (co k) v)).mp q
        refine go_s (pc' := 193) (lv' := (ab_s1 8 (.int (Int32.ofNat (k + 1))) lv)) (st' := []) (h' := h) rfl rfl (mk_inc1 (by decide) (by omega) f8) ?_
        have f8 : ab_lk (ab_s1 8 (.int (Int32.ofNat (k + 1))) lv) 8 = some (.int (Int32.ofNat (k + 1))) := mk_s1s
        have f0 := po_s1_other (v := .int (Int32.ofNat (k + 1))) (i := 8) f0 (by decide) (fun q => absurd q.1 (by decide))
        have f3 := po_s1_other (v := .int (Int32.ofNat (k + 1))) (i := 8) f3 (by decide) (fun q => absurd q.1 (by decide))
        have f5 := po_s1_other (v := .int (Int32.ofNat (k + 1))) (i := 8) f5 (by decide) (fun q => absurd q.1 (by decide))
        generalize ab_s1 8 (.int (Int32.ofNat (k + 1))) lv = lv1 at f0 f3 f5 f8 ⊢
        refine go_goto (off := -51) (tgt := 142) rfl rfl ?_
        exact ih (k + 1) lv1 (by omega) (by omega) (fun j h1 h2 => by
          by_cases e : j = k
          · subst e; exact fun z => by have z1 := z.1; rw [hb] at z1; cases z1
          · exact hno j h1 (by omega)) f0 f3 f5 f8
      · have hb : mk_bt (co k) v = true := by
          cases e : mk_bt (co k) v with
          | true => rfl
          | false => rw [e] at q; exact absurd ((mk_cmp0 false).mpr rfl) q
        refine go_s (pc' := 174) (lv' := lv) (st' := [.ref 82]) (h' := h) rfl rfl (ig_ald f0) ?_
        refine go_get (ci := 10) (k := 52) rfl m.1 hw.2.2.2.2.1 ?_
        refine go_s (pc' := 179) (lv' := lv) (st' := [.int (Int32.ofNat k), .ref 105]) (h' := h) rfl rfl (po_ild (nL := 0) f8) ?_
        refine go_ial (v := cl k) rfl m.2.2.1 (mk_ix (by omega) (by omega)) (by rw [mk_cl (by omega)]) ?_
        refine go_s (pc' := 181) (lv' := lv) (st' := [.ref 82, .int (cl k)]) (h' := h) rfl rfl (ig_ald f0) ?_
        refine go_get (ci := 10) (k := 56) rfl m.1 hw.2.2.2.2.2.2.2.2 ?_
        refine go_s (pc' := 186) (lv' := lv) (st' := [.int (Int32.ofNat D), .ref 109, .int (cl k)]) (h' := h) rfl rfl (po_ild (nL := 0) f5) ?_
        refine go_ial (v := ll D) rfl m.2.2.2.2.2.2 (mk_ix (by omega) (by omega)) (by rw [mk_cl (by omega)]) ?_
        refine go_ic (c := .le) (off := 9) (tgt := 196) rfl rfl (fun q2 => kk k lv ht (by omega) (fun _ => ⟨hb, q2⟩) hno f0 f3 f5 f8) (fun q2 => ?_)
        refine go_s (pc' := 193) (lv' := (ab_s1 8 (.int (Int32.ofNat (k + 1))) lv)) (st' := []) (h' := h) rfl rfl (mk_inc1 (by decide) (by omega) f8) ?_
        have f8 : ab_lk (ab_s1 8 (.int (Int32.ofNat (k + 1))) lv) 8 = some (.int (Int32.ofNat (k + 1))) := mk_s1s
        have f0 := po_s1_other (v := .int (Int32.ofNat (k + 1))) (i := 8) f0 (by decide) (fun q => absurd q.1 (by decide))
        have f3 := po_s1_other (v := .int (Int32.ofNat (k + 1))) (i := 8) f3 (by decide) (fun q => absurd q.1 (by decide))
        have f5 := po_s1_other (v := .int (Int32.ofNat (k + 1))) (i := 8) f5 (by decide) (fun q => absurd q.1 (by decide))
        generalize ab_s1 8 (.int (Int32.ofNat (k + 1))) lv = lv1 at f0 f3 f5 f8 ⊢
        refine go_goto (off := -51) (tgt := 142) rfl rfl ?_
        exact ih (k + 1) lv1 (by omega) (by omega) (fun j h1 h2 => by
          by_cases e : j = k
          · subst e; exact fun z => q2 z.2
          · exact hno j h1 (by omega)) f0 f3 f5 f8
/-- behind the scan: a level more, or a level less -/
theorem cm_196 (hw : mw ws n on) (hc : ∀ k, k < n → 0 ≤ (cl k).toInt ∧ (cl k).toInt ≤ 6) (hM : M ≤ 69) {h : ab_H} {cv : Nat → Int64} {pt tr ll : Nat → Int32} (m : cm_M h0 h ws co cl cv pt tr ll) {D v k : Nat} (hD : D ≤ M) (hk : k ≤ n) (hok : k < n → cm_ok co cl v (ll D).toInt k) (hl : 0 ≤ (ll D).toInt ∧ (ll D).toInt ≤ 1000)
    (pop : ¬ (k < n ∧ D < M) → cm_up d h0 ws co cl M D Q cv pt tr ll)
    (push : k < n → D < M → ∀ (cv' : Nat → Int64) (pt' tr' ll' : Nat → Int32) (h : ab_H) (lv : ab_L), cm_M h0 h ws co cl cv' pt' tr' ll' → cm_E D cv cv' pt pt' tr tr' ll ll' → cv' D = cv D → pt' D = pt D → ll' D = ll D → tr' D = Int32.ofNat (k + 1) → cv' (D + 1) = (cv D ||| co k) → pt' (D + 1) = -4 → (ll' (D + 1)).toInt = (ll D).toInt - (cl k).toInt → ab_lk lv 0 = some (.ref 82) → ab_lk lv 3 = some (.int (Int32.ofNat M)) → ab_lk lv 5 = some (.int (Int32.ofNat (D + 1))) → ab_go d ab_M_X10_canMake 26 lv [] h Q)
    {lv : ab_L} (f0 : ab_lk lv 0 = some (.ref 82)) (f3 : ab_lk lv 3 = some (.int (Int32.ofNat M))) (f5 : ab_lk lv 5 = some (.int (Int32.ofNat D))) (f8 : ab_lk lv 8 = some (.int (Int32.ofNat k))) : ab_go d ab_M_X10_canMake 196 lv [] h Q := by
  have hn := hw.1
  have popgo : ¬ (k < n ∧ D < M) → ab_go d ab_M_X10_canMake 287 lv [] h Q := fun q => by
    refine go_s (pc' := 290) (lv' := ab_s1 5 (.int (Int32.ofNat D + Int32.ofInt (-1))) lv) (st' := []) (h' := h) rfl rfl (by show ab_inc _ 5 (-1) 287 lv [] h = _; unfold ab_inc; rw [f5]; rfl) ?_
    refine go_goto (off := -264) (tgt := 26) rfl rfl ?_
    refine pop q cv pt tr ll h _ (Int32.ofNat D + Int32.ofInt (-1)) ?_ m (fun i _ => ⟨rfl, rfl, rfl, rfl⟩) (po_s1_other f0 (by decide) (fun q => absurd q.1 (by decide))) (po_s1_other f3 (by decide) (fun q => absurd q.1 (by decide))) mk_s1s
    rw [Int32.toInt_add, mk_i (by omega), show (Int32.ofInt (-1)).toInt = -1 from rfl, sx_bm (by omega) (by omega)]
    omega
  refine go_s (pc' := 198) (lv' := lv) (st' := [.int (Int32.ofNat k)]) (h' := h) rfl rfl (po_ild (nL := 0) f8) ?_
  refine go_s (pc' := 199) (lv' := lv) (st' := [.ref 82, .int (Int32.ofNat k)]) (h' := h) rfl rfl (ig_ald f0) ?_
  refine go_get (ci := 10) (k := 49) rfl m.1.1 hw.2.2.1 ?_
  refine go_ic (c := .ge) (off := 85) (tgt := 287) rfl rfl (fun q => popgo (fun z => ?_)) (fun q => ?_)
  · have q : (Int32.ofNat n).toInt ≤ (Int32.ofNat k).toInt := q
    rw [mk_i (by omega), mk_i (by omega)] at q
    omega
  have hkn : k < n := by
    have q : ¬ (Int32.ofNat n).toInt ≤ (Int32.ofNat k).toInt := q
    rw [mk_i (by omega), mk_i (by omega)] at q
    omega
  refine go_s (pc' := 207) (lv' := lv) (st' := [.int (Int32.ofNat D)]) (h' := h) rfl rfl (po_ild (nL := 0) f5) ?_
  refine go_s (pc' := 208) (lv' := lv) (st' := [.int (Int32.ofNat M), .int (Int32.ofNat D)]) (h' := h) rfl rfl (po_ild (nL := 0) f3) ?_
  refine go_ic (c := .ge) (off := 79) (tgt := 287) rfl rfl (fun q => popgo (fun z => ?_)) (fun q => ?_)
  · have q : (Int32.ofNat M).toInt ≤ (Int32.ofNat D).toInt := q
    rw [mk_i (by omega), mk_i (by omega)] at q
    omega
  have hDM : D < M := by
    have q : ¬ (Int32.ofNat M).toInt ≤ (Int32.ofNat D).toInt := q
    rw [mk_i (by omega), mk_i (by omega)] at q
    omega
  have hck := hc k hkn
  have hk2 := hok hkn
  refine go_s (pc' := 212) (lv' := lv) (st' := [.ref 82]) (h' := h) rfl rfl (ig_ald f0) ?_
  refine go_get (ci := 10) (k := 55) rfl m.1.1 hw.2.2.2.2.2.2.2.1 ?_
  refine go_s (pc' := 217) (lv' := lv) (st' := [.int (Int32.ofNat D), .ref 108]) (h' := h) rfl rfl (po_ild (nL := 0) f5) ?_
  refine go_s (pc' := 219) (lv' := lv) (st' := [.int (Int32.ofNat k), .int (Int32.ofNat D), .ref 108]) (h' := h) rfl rfl (po_ild (nL := 0) f8) ?_
  refine go_s (pc' := 220) (lv' := lv) (st' := [.int 1, .int (Int32.ofNat k), .int (Int32.ofNat D), .ref 108]) (h' := h) rfl rfl rfl ?_
  refine go_s (pc' := 221) (lv' := lv) (st' := [.int (Int32.ofNat (k + 1)), .int (Int32.ofNat D), .ref 108]) (h' := h) rfl rfl (by show some (_, _, Value.int (Int32.ofNat k + Int32.ofInt 1) :: _, _) = _; rw [mk_inc (by omega)]) ?_
  obtain ⟨m0, mF, mT⟩ := m
  refine go_ias rfl m0.2.2.2.2.2.1 (mk_ix (by omega) (by omega)) (by decide) ?_
  rw [mk_cl (show D < 2147483648 by omega)]
  have m1 := m0.w108 (upd tr D (Int32.ofNat (k + 1)))
  refine go_s (pc' := 223) (lv' := lv) (st' := [.ref 82]) (h' := (ab_wr h 108 (.inl (0, 70, .inl (upd tr D (Int32.ofNat (k + 1))))))) rfl rfl (ig_ald f0) ?_
  refine go_get (ci := 10) (k := 53) rfl m1.1 hw.2.2.2.2.2.1 ?_
  refine go_s (pc' := 228) (lv' := lv) (st' := [.int (Int32.ofNat D), .ref 106]) (h' := (ab_wr h 108 (.inl (0, 70, .inl (upd tr D (Int32.ofNat (k + 1))))))) rfl rfl (po_ild (nL := 0) f5) ?_
  refine go_s (pc' := 229) (lv' := lv) (st' := [.int 1, .int (Int32.ofNat D), .ref 106]) (h' := (ab_wr h 108 (.inl (0, 70, .inl (upd tr D (Int32.ofNat (k + 1))))))) rfl rfl rfl ?_
  refine go_s (pc' := 230) (lv' := lv) (st' := [.int (Int32.ofNat (D + 1)), .ref 106]) (h' := (ab_wr h 108 (.inl (0, 70, .inl (upd tr D (Int32.ofNat (k + 1))))))) rfl rfl (by show some (_, _, Value.int (Int32.ofNat D + Int32.ofInt 1) :: _, _) = _; rw [mk_inc (by omega)]) ?_
  refine go_s (pc' := 231) (lv' := lv) (st' := [.ref 82, .int (Int32.ofNat (D + 1)), .ref 106]) (h' := (ab_wr h 108 (.inl (0, 70, .inl (upd tr D (Int32.ofNat (k + 1))))))) rfl rfl (ig_ald f0) ?_
  refine go_get (ci := 10) (k := 53) rfl m1.1 hw.2.2.2.2.2.1 ?_
  refine go_s (pc' := 236) (lv' := lv) (st' := [.int (Int32.ofNat D), .ref 106, .int (Int32.ofNat (D + 1)), .ref 106]) (h' := (ab_wr h 108 (.inl (0, 70, .inl (upd tr D (Int32.ofNat (k + 1))))))) rfl rfl (po_ild (nL := 0) f5) ?_
  refine go_lal (v := cv D) rfl m1.2.2.2.1 (mk_ix (by omega) (by omega)) (by rw [mk_cl (by omega)]) ?_
  refine go_s (pc' := 238) (lv' := lv) (st' := [.ref 82, .long (cv D), .int (Int32.ofNat (D + 1)), .ref 106]) (h' := (ab_wr h 108 (.inl (0, 70, .inl (upd tr D (Int32.ofNat (k + 1))))))) rfl rfl (ig_ald f0) ?_
  refine go_get (ci := 10) (k := 51) rfl m1.1 hw.2.2.2.1 ?_
  refine go_s (pc' := 243) (lv' := lv) (st' := [.int (Int32.ofNat k), .ref 104, .long (cv D), .int (Int32.ofNat (D + 1)), .ref 106]) (h' := (ab_wr h 108 (.inl (0, 70, .inl (upd tr D (Int32.ofNat (k + 1))))))) rfl rfl (po_ild (nL := 0) f8) ?_
  refine go_lal (v := co k) rfl m1.2.1 (mk_ix (by omega) (by omega)) (by rw [mk_cl (by omega)]) ?_
  refine go_s (pc' := 245) (lv' := lv) (st' := [.long ((cv D) ||| (co k)), .int (Int32.ofNat (D + 1)), .ref 106]) (h' := (ab_wr h 108 (.inl (0, 70, .inl (upd tr D (Int32.ofNat (k + 1))))))) rfl rfl rfl ?_
  refine go_las rfl m1.2.2.2.1 (mk_ix (by omega) (by omega)) (by decide) ?_
  rw [mk_cl (show (D + 1) < 2147483648 by omega)]
  have m2 := m1.w106 (vp_updL cv (D + 1) (cv D ||| co k))
  refine go_s (pc' := 247) (lv' := lv) (st' := [.ref 82]) (h' := (ab_wr (ab_wr h 108 (.inl (0, 70, .inl (upd tr D (Int32.ofNat (k + 1)))))) 106 (.inl (2, 70, .inr (.inl (vp_updL cv (D + 1) (cv D ||| co k))))))) rfl rfl (ig_ald f0) ?_
  refine go_get (ci := 10) (k := 56) rfl m2.1 hw.2.2.2.2.2.2.2.2 ?_
  refine go_s (pc' := 252) (lv' := lv) (st' := [.int (Int32.ofNat D), .ref 109]) (h' := (ab_wr (ab_wr h 108 (.inl (0, 70, .inl (upd tr D (Int32.ofNat (k + 1)))))) 106 (.inl (2, 70, .inr (.inl (vp_updL cv (D + 1) (cv D ||| co k))))))) rfl rfl (po_ild (nL := 0) f5) ?_
  refine go_s (pc' := 253) (lv' := lv) (st' := [.int 1, .int (Int32.ofNat D), .ref 109]) (h' := (ab_wr (ab_wr h 108 (.inl (0, 70, .inl (upd tr D (Int32.ofNat (k + 1)))))) 106 (.inl (2, 70, .inr (.inl (vp_updL cv (D + 1) (cv D ||| co k))))))) rfl rfl rfl ?_
  refine go_s (pc' := 254) (lv' := lv) (st' := [.int (Int32.ofNat (D + 1)), .ref 109]) (h' := (ab_wr (ab_wr h 108 (.inl (0, 70, .inl (upd tr D (Int32.ofNat (k + 1)))))) 106 (.inl (2, 70, .inr (.inl (vp_updL cv (D + 1) (cv D ||| co k))))))) rfl rfl (by show some (_, _, Value.int (Int32.ofNat D + Int32.ofInt 1) :: _, _) = _; rw [mk_inc (by omega)]) ?_
  refine go_s (pc' := 255) (lv' := lv) (st' := [.ref 82, .int (Int32.ofNat (D + 1)), .ref 109]) (h' := (ab_wr (ab_wr h 108 (.inl (0, 70, .inl (upd tr D (Int32.ofNat (k + 1)))))) 106 (.inl (2, 70, .inr (.inl (vp_updL cv (D + 1) (cv D ||| co k))))))) rfl rfl (ig_ald f0) ?_
  refine go_get (ci := 10) (k := 56) rfl m2.1 hw.2.2.2.2.2.2.2.2 ?_
  refine go_s (pc' := 260) (lv' := lv) (st' := [.int (Int32.ofNat D), .ref 109, .int (Int32.ofNat (D + 1)), .ref 109]) (h' := (ab_wr (ab_wr h 108 (.inl (0, 70, .inl (upd tr D (Int32.ofNat (k + 1)))))) 106 (.inl (2, 70, .inr (.inl (vp_updL cv (D + 1) (cv D ||| co k))))))) rfl rfl (po_ild (nL := 0) f5) ?_
  refine go_ial (v := ll D) rfl m2.2.2.2.2.2.2 (mk_ix (by omega) (by omega)) (by rw [mk_cl (by omega)]) ?_
  refine go_s (pc' := 262) (lv' := lv) (st' := [.ref 82, .int (ll D), .int (Int32.ofNat (D + 1)), .ref 109]) (h' := (ab_wr (ab_wr h 108 (.inl (0, 70, .inl (upd tr D (Int32.ofNat (k + 1)))))) 106 (.inl (2, 70, .inr (.inl (vp_updL cv (D + 1) (cv D ||| co k))))))) rfl rfl (ig_ald f0) ?_
  refine go_get (ci := 10) (k := 52) rfl m2.1 hw.2.2.2.2.1 ?_
  refine go_s (pc' := 267) (lv' := lv) (st' := [.int (Int32.ofNat k), .ref 105, .int (ll D), .int (Int32.ofNat (D + 1)), .ref 109]) (h' := (ab_wr (ab_wr h 108 (.inl (0, 70, .inl (upd tr D (Int32.ofNat (k + 1)))))) 106 (.inl (2, 70, .inr (.inl (vp_updL cv (D + 1) (cv D ||| co k))))))) rfl rfl (po_ild (nL := 0) f8) ?_
  refine go_ial (v := cl k) rfl m2.2.2.1 (mk_ix (by omega) (by omega)) (by rw [mk_cl (by omega)]) ?_
  refine go_s (pc' := 269) (lv' := lv) (st' := [.int ((ll D) - (cl k)), .int (Int32.ofNat (D + 1)), .ref 109]) (h' := (ab_wr (ab_wr h 108 (.inl (0, 70, .inl (upd tr D (Int32.ofNat (k + 1)))))) 106 (.inl (2, 70, .inr (.inl (vp_updL cv (D + 1) (cv D ||| co k))))))) rfl rfl rfl ?_
  refine go_ias rfl m2.2.2.2.2.2.2 (mk_ix (by omega) (by omega)) (by decide) ?_
  rw [mk_cl (show (D + 1) < 2147483648 by omega)]
  have m3 := m2.w109 (upd ll (D + 1) (ll D - cl k))
  refine go_s (pc' := 271) (lv' := lv) (st' := [.ref 82]) (h' := (ab_wr (ab_wr (ab_wr h 108 (.inl (0, 70, .inl (upd tr D (Int32.ofNat (k + 1)))))) 106 (.inl (2, 70, .inr (.inl (vp_updL cv (D + 1) (cv D ||| co k)))))) 109 (.inl (0, 70, .inl (upd ll (D + 1) (ll D - cl k)))))) rfl rfl (ig_ald f0) ?_
  refine go_get (ci := 10) (k := 54) rfl m3.1 hw.2.2.2.2.2.2.1 ?_
  refine go_s (pc' := 276) (lv' := lv) (st' := [.int (Int32.ofNat D), .ref 107]) (h' := (ab_wr (ab_wr (ab_wr h 108 (.inl (0, 70, .inl (upd tr D (Int32.ofNat (k + 1)))))) 106 (.inl (2, 70, .inr (.inl (vp_updL cv (D + 1) (cv D ||| co k)))))) 109 (.inl (0, 70, .inl (upd ll (D + 1) (ll D - cl k)))))) rfl rfl (po_ild (nL := 0) f5) ?_
  refine go_s (pc' := 277) (lv' := lv) (st' := [.int 1, .int (Int32.ofNat D), .ref 107]) (h' := (ab_wr (ab_wr (ab_wr h 108 (.inl (0, 70, .inl (upd tr D (Int32.ofNat (k + 1)))))) 106 (.inl (2, 70, .inr (.inl (vp_updL cv (D + 1) (cv D ||| co k)))))) 109 (.inl (0, 70, .inl (upd ll (D + 1) (ll D - cl k)))))) rfl rfl rfl ?_
  refine go_s (pc' := 278) (lv' := lv) (st' := [.int (Int32.ofNat (D + 1)), .ref 107]) (h' := (ab_wr (ab_wr (ab_wr h 108 (.inl (0, 70, .inl (upd tr D (Int32.ofNat (k + 1)))))) 106 (.inl (2, 70, .inr (.inl (vp_updL cv (D + 1) (cv D ||| co k)))))) 109 (.inl (0, 70, .inl (upd ll (D + 1) (ll D - cl k)))))) rfl rfl (by show some (_, _, Value.int (Int32.ofNat D + Int32.ofInt 1) :: _, _) = _; rw [mk_inc (by omega)]) ?_
  refine go_s (pc' := 280) (lv' := lv) (st' := [.int (-4), .int (Int32.ofNat (D + 1)), .ref 107]) (h' := (ab_wr (ab_wr (ab_wr h 108 (.inl (0, 70, .inl (upd tr D (Int32.ofNat (k + 1)))))) 106 (.inl (2, 70, .inr (.inl (vp_updL cv (D + 1) (cv D ||| co k)))))) 109 (.inl (0, 70, .inl (upd ll (D + 1) (ll D - cl k)))))) rfl rfl rfl ?_
  refine go_ias rfl m3.2.2.2.2.1 (mk_ix (by omega) (by omega)) (by decide) ?_
  rw [mk_cl (show (D + 1) < 2147483648 by omega)]
  have m4 := m3.w107 (upd pt (D + 1) (-4))
  refine go_s (pc' := 284) (lv' := (ab_s1 5 (.int (Int32.ofNat (D + 1))) lv)) (st' := []) (h' := (ab_wr (ab_wr (ab_wr (ab_wr h 108 (.inl (0, 70, .inl (upd tr D (Int32.ofNat (k + 1)))))) 106 (.inl (2, 70, .inr (.inl (vp_updL cv (D + 1) (cv D ||| co k)))))) 109 (.inl (0, 70, .inl (upd ll (D + 1) (ll D - cl k))))) 107 (.inl (0, 70, .inl (upd pt (D + 1) (-4)))))) rfl rfl (mk_inc1 (by decide) (by omega) f5) ?_
  have f5 : ab_lk (ab_s1 5 (.int (Int32.ofNat (D + 1))) lv) 5 = some (.int (Int32.ofNat (D + 1))) := mk_s1s
  have f0 := po_s1_other (v := .int (Int32.ofNat (D + 1))) (i := 5) f0 (by decide) (fun q => absurd q.1 (by decide))
  have f3 := po_s1_other (v := .int (Int32.ofNat (D + 1))) (i := 5) f3 (by decide) (fun q => absurd q.1 (by decide))
  have f8 := po_s1_other (v := .int (Int32.ofNat (D + 1))) (i := 5) f8 (by decide) (fun q => absurd q.1 (by decide))
  generalize ab_s1 5 (.int (Int32.ofNat (D + 1))) lv = lv1 at f0 f3 f5 f8 ⊢
  refine go_goto (off := 6) (tgt := 290) rfl rfl ?_
  refine go_goto (off := -264) (tgt := 26) rfl rfl ?_
  have hsub : (ll D - cl k).toInt = (ll D).toInt - (cl k).toInt := by
    have := hk2.2
    rw [Int32.toInt_sub, sx_bm (by omega) (by omega)]
  refine push hkn hDM _ _ _ _ _ _ ⟨m4, ((((mF.wr (by decide) _).wr (by decide) _).wr (by decide) _).wr (by decide) _), fun i hi => ?_⟩ (fun i hi => ⟨if_neg (by omega), if_neg (by omega), if_neg (by omega), if_neg (by omega)⟩) (if_neg (by omega)) (if_neg (by omega)) (if_neg (by omega)) (if_pos rfl) (if_pos rfl) (if_pos rfl) (by rw [show upd ll (D + 1) (ll D - cl k) (D + 1) = ll D - cl k from if_pos rfl]; exact hsub) f0 f3 f5
  unfold upd
  split
  · rw [mk_i (by omega)]
    omega
  · exact mT i hi
end CM
