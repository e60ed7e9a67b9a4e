/-! ===== arrays, calls, all of it ===== -/
section DC
variable {u N : Nat} {M : ab_M} {pc pc' : Nat} {lv L : ab_L} {st : List Value} {m : dc_M} {Q : Option Value → dc_M → Prop} {it : ab_I} {k : dc_K}
theorem dc_ialk (h1 : ab_at M.2.2.2.2.2 pc = some it) (hi : it.1 = .iaload) (hk : dc_kk u N M Q k) (hs : dc_sub L lv) (hx : dc_lf u N M Q (dc_ial pc L st m k)) : dc_pv u (N + 1) M pc lv st m Q := dc_st h1 (by unfold ab_kd; rw [hi]) (fun h s wf hv e => by
  simp only [ab_sp, hi] at e
  unfold ab_ial at e
  split at e
  · rename_i i a r
    split at e
    · rename_i n f hr
      split at e
      · cases e
        have e1 : m.1 a i.toNatClampNeg = f i.toNatClampNeg := by rw [← hv, dc_v1 hr]; rfl
        have hx : dc_lf u N M Q (k (pc + 1) L (.int (m.1 a i.toNatClampNeg) :: r) m) := hx
        rw [e1] at hx
        exact ⟨wf, by rw [hv]; exact hk _ _ _ _ _ hs hx⟩
      · cases e
    · cases e
  · cases e)
theorem dc_bal_k {i : Int32} {a : Nat} {r : List Value} {h : ab_H} {s : ab_S} (e : ab_bal pc lv (.int i :: .ref a :: r) h = some s) : s = (pc + 1, lv, .int ((dc_vw h).1 a i.toNatClampNeg) :: r, h) := by
  unfold ab_bal at e
  dsimp only at e
  split at e
  · rename_i n f hr
    split at e
    · cases e; rw [dc_v1 hr]; rfl
    · cases e
  · rename_i n f hr
    split at e
    · cases e; rw [dc_v1 hr]; rfl
    · cases e
  · cases e
theorem dc_balk (h1 : ab_at M.2.2.2.2.2 pc = some it) (hi : it.1 = .baload) (hk : dc_kk u N M Q k) (hs : dc_sub L lv) (hx : dc_lf u N M Q (dc_bal pc L st m k)) : dc_pv u (N + 1) M pc lv st m Q := dc_st h1 (by unfold ab_kd; rw [hi]) (fun h s wf hv e => by
  simp only [ab_sp, hi] at e
  unfold dc_bal at hx
  split at hx
  · rename_i i a r
    have e : ab_bal pc lv (.int i :: .ref a :: r) h = some s := e
    have e := dc_bal_k e
    subst e
    dsimp only
    rw [hv]
    exact ⟨wf, hk _ _ _ _ _ hs hx⟩
  · rename_i i q r
    unfold ab_bal2 at e
    dsimp only at e
    split at e
    · cases e
      exact ⟨wf, by rw [hv]; exact hk _ _ _ _ _ hs hx⟩
    · cases e
  · exact (dc_kz_no hx).elim)
theorem dc_lalk (h1 : ab_at M.2.2.2.2.2 pc = some it) (hi : it.1 = .laload) (hk : dc_kk u N M Q k) (hs : dc_sub L lv) (hx : dc_lf u N M Q (dc_lal pc L st m k)) : dc_pv u (N + 1) M pc lv st m Q := dc_st h1 (by unfold ab_kd; rw [hi]) (fun h s wf hv e => by
  simp only [ab_sp, hi] at e
  unfold dc_lal at hx
  split at hx
  · rename_i i a r
    have e : ab_lal pc lv (.int i :: .ref a :: r) h = some s := e
    unfold ab_lal at e
    dsimp only at e
    split at e
    · rename_i n f hr
      split at e
      · cases e
        have e1 : m.2.1 a i.toNatClampNeg = f i.toNatClampNeg := by rw [← hv, dc_v2 hr]; rfl
        rw [e1] at hx
        exact ⟨wf, by rw [hv]; exact hk _ _ _ _ _ hs hx⟩
      · cases e
    · cases e
  · rename_i i q r
    unfold ab_lal2 at e
    dsimp only at e
    split at e
    · cases e
      exact ⟨wf, by rw [hv]; exact hk _ _ _ _ _ hs hx⟩
    · cases e
  · exact (dc_kz_no hx).elim)
theorem dc_aalk (h1 : ab_at M.2.2.2.2.2 pc = some it) (hi : it.1 = .aaload) (hk : dc_kk u N M Q k) (hs : dc_sub L lv) (hx : dc_lf u N M Q (dc_aal pc L st m k)) : dc_pv u (N + 1) M pc lv st m Q := dc_st h1 (by unfold ab_kd; rw [hi]) (fun h s wf hv e => by
  simp only [ab_sp, hi] at e
  unfold ab_aal at e
  split at e
  · rename_i i a r
    split at e
    · rename_i n f hr
      split at e
      · rename_i hin
        cases e
        have hin2 : i.toNatClampNeg < n := by
          unfold ab_in at hin
          simp only [Bool.not_eq_true', Bool.or_eq_false_iff, decide_eq_false_iff_not] at hin
          omega
        obtain ⟨b, hb⟩ := dc_we_of wf hr i.toNatClampNeg hin2
        have e1 : m.2.2.1 a i.toNatClampNeg = b := by
          rw [← hv, dc_v3 hr]
          show (f i.toNatClampNeg).getD 0 = b
          rw [hb]
          rfl
        have hx : dc_lf u N M Q (k (pc + 1) L (.ref (m.2.2.1 a i.toNatClampNeg) :: r) m) := hx
        rw [e1] at hx
        refine ⟨wf, ?_⟩
        dsimp only
        rw [hv, hb]
        exact hk _ _ _ _ _ hs hx
      · cases e
    · cases e
  · cases e)
theorem dc_lenk (h1 : ab_at M.2.2.2.2.2 pc = some it) (hi : it.1 = .arraylength) (hk : dc_kk u N M Q k) (hs : dc_sub L lv) (hx : dc_lf u N M Q (dc_len pc L st m k)) : dc_pv u (N + 1) M pc lv st m Q := dc_st h1 (by unfold ab_kd; rw [hi]) (fun h s wf hv e => by
  simp only [ab_sp, hi] at e
  unfold dc_len at hx
  split at hx
  · rename_i a r
    have e : ab_len pc lv (.ref a :: r) h = some s := e
    unfold ab_len at e
    dsimp only at e
    split at e
    · rename_i t n f hr
      split at e
      · cases e
        have e1 : (m.2.2.2 a).2 = n := by rw [← hv, dc_v4 hr]; rfl
        rw [e1] at hx
        exact ⟨wf, by rw [hv]; exact hk _ _ _ _ _ hs hx⟩
      · cases e
    · cases e
  · rename_i q r
    unfold ab_len2 at e
    dsimp only at e
    split at e
    · cases e
      exact ⟨wf, by rw [hv]; exact hk _ _ _ _ _ hs hx⟩
    · cases e
  · exact (dc_kz_no hx).elim)
theorem dc_iask (h1 : ab_at M.2.2.2.2.2 pc = some it) (hi : it.1 = .iastore) (hk : dc_kk u N M Q k) (hs : dc_sub L lv) (hx : dc_lf u N M Q (dc_ias pc L st m k)) : dc_pv u (N + 1) M pc lv st m Q := dc_st h1 (by unfold ab_kd; rw [hi]) (fun h s wf hv e => by
  simp only [ab_sp, hi] at e
  unfold ab_ias at e
  split at e
  · rename_i x i a r
    split at e
    · rename_i n f hr
      split at e
      · cases e
        refine ⟨dc_wf_wr wf trivial, ?_⟩
        dsimp only
        rw [dc_vw_i hr, hv]
        exact hk _ _ _ _ _ hs hx
      · cases e
    · cases e
  · cases e)
theorem dc_bask (h1 : ab_at M.2.2.2.2.2 pc = some it) (hi : it.1 = .bastore) (hk : dc_kk u N M Q k) (hs : dc_sub L lv) (hx : dc_lf u N M Q (dc_bas pc L st m k)) : dc_pv u (N + 1) M pc lv st m Q := dc_st h1 (by unfold ab_kd; rw [hi]) (fun h s wf hv e => by
  simp only [ab_sp, hi] at e
  unfold ab_bas at e
  split at e
  · rename_i x i a r
    have hx : dc_lf u N M Q (k (pc + 1) L r (dc_wi m a i.toNatClampNeg (dc_nar (m.2.2.2 a).1 x))) := hx
    split at e
    · rename_i n f hr
      split at e
      · cases e
        refine ⟨dc_wf_wr wf trivial, ?_⟩
        have e1 : dc_nar (m.2.2.2 a).1 x = vp_nar .byte x := by rw [← hv, dc_v4 hr]; rfl
        rw [e1] at hx
        dsimp only
        rw [dc_vw_i hr, hv]
        exact hk _ _ _ _ _ hs hx
      · cases e
    · rename_i n f hr
      split at e
      · cases e
        refine ⟨dc_wf_wr wf trivial, ?_⟩
        have e1 : dc_nar (m.2.2.2 a).1 x = vp_nar .boolean x := by rw [← hv, dc_v4 hr]; rfl
        rw [e1] at hx
        dsimp only
        rw [dc_vw_i hr, hv]
        exact hk _ _ _ _ _ hs hx
      · cases e
    · cases e
  · cases e)
theorem dc_lask (h1 : ab_at M.2.2.2.2.2 pc = some it) (hi : it.1 = .lastore) (hk : dc_kk u N M Q k) (hs : dc_sub L lv) (hx : dc_lf u N M Q (dc_las pc L st m k)) : dc_pv u (N + 1) M pc lv st m Q := dc_st h1 (by unfold ab_kd; rw [hi]) (fun h s wf hv e => by
  simp only [ab_sp, hi] at e
  unfold ab_las at e
  split at e
  · rename_i x i a r
    split at e
    · rename_i n f hr
      split at e
      · cases e
        refine ⟨dc_wf_wr wf trivial, ?_⟩
        dsimp only
        rw [dc_vw_l hr, hv]
        exact hk _ _ _ _ _ hs hx
      · cases e
    · cases e
  · cases e)
theorem dc_rek (h1 : ab_at M.2.2.2.2.2 pc = some it) (h2 : ab_kd it = 1) (hx : ∀ h r h', ab_rt M it st h = some (r, h') → dc_vw h = m → h' = h ∧ Q r m) : dc_pv u (N + 1) M pc lv st m Q := fun d h wf hv n hn r h' e => by
  cases n with
  | zero => cases e
  | succ n =>
    unfold ab_ex at e
    simp only [h1, h2] at e
    obtain ⟨rfl, q⟩ := hx h r h' e hv
    exact ⟨wf, by rw [hv]; exact q⟩
theorem dc_dvk {f : Int32 → Int32 → Int32} (h1 : ab_at M.2.2.2.2.2 pc = some it) (h2 : ab_kd it = 0) (h3 : ∀ h, ab_sp M.2.2.1 it pc lv st h = ab_dv f pc lv st h) (hk : dc_kk u N M Q k) (hs : dc_sub L lv) (hx : dc_lf u N M Q (dc_dv f pc L st m k)) : dc_pv u (N + 1) M pc lv st m Q := dc_st h1 h2 (fun h s wf hv e => by
  rw [h3] at e
  unfold ab_dv at e
  split at e
  · split at e
    · cases e
    · cases e
      exact ⟨wf, by rw [hv]; exact hk _ _ _ _ _ hs hx⟩
  · cases e)
theorem dc_cpyk {i : Nat} (h1 : ab_at M.2.2.2.2.2 pc = some it) (hi : it.1 = .invokestatic i) (h8 : it.2.2.1 = 8) (hk : dc_kk u N M Q k) (hs : dc_sub L lv) (hx : dc_lf u N M Q (dc_cpy pc L st m k)) : dc_pv u (N + 1) M pc lv st m Q := fun d h wf hv n hn r h' e => by
  have h2 : ab_kd it = 4 := by unfold ab_kd; rw [hi]; exact if_pos h8
  cases n with
  | zero => cases e
  | succ n =>
    unfold ab_ex at e
    simp only [h1, h2] at e
    cases d with
    | zero => cases e
    | succ d =>
      dsimp only at e
      split at e
      · cases e
      · rename_i s hsp
        simp only [ab_sp, hi, if_pos h8] at hsp
        unfold ab_cpy at hsp
        split at hsp
        · rename_i c dp a sp a0 r0
          split at hsp
          · rename_i n0 f hr0
            split at hsp
            · rename_i n1 g hr
              split at hsp
              · cases hsp
                have q := hk (pc + 3) L lv r0 _ hs hx
                refine q (d + 1) (ab_wr h a (.inl (0, n1, .inl (va_cpy f g sp.toNatClampNeg dp.toNatClampNeg c.toNatClampNeg)))) (dc_wf_wr wf trivial) ?_ n (by omega) r h' e
                rw [dc_vw_cp hr hr0, hv]
              · cases hsp
            · cases hsp
          · cases hsp
        · cases hsp
theorem dc_calk {C : List (Nat × dc_H)} (hC : ∀ id hd, dc_lu C id = some hd → dc_cok u id hd) (h1 : ab_at M.2.2.2.2.2 pc = some it) (h2 : ab_kd it = 2) (hk : dc_kk u N M Q k) (hs : dc_sub L lv) (hx : dc_lf u N M Q (dc_cal C it pc L st m k)) : dc_pv u (N + 1) M pc lv st m Q := fun d h wf hv n hn r h' e => by
  cases n with
  | zero => cases e
  | succ n =>
    unfold ab_ex at e
    simp only [h1, h2] at e
    cases d with
    | zero => cases e
    | succ d =>
      dsimp only at e
      split at e
      · cases e
      · rename_i q hq
        obtain ⟨M', A, rest⟩ := q
        split at e
        · cases e
        · rename_i r1 hr1
          obtain ⟨r1, g1⟩ := r1
          obtain ⟨hG, -, -, As, hlen, hcase⟩ := ab_cal_of hq
          unfold dc_cal at hx
          rw [if_neg (by rcases hcase with ⟨z, -⟩ | ⟨z, -⟩ | ⟨z, -⟩ | ⟨z, -⟩ <;> omega), if_neg (by rcases hcase with ⟨z, -⟩ | ⟨z, -⟩ | ⟨z, -⟩ | ⟨z, -⟩ <;> omega)] at hx
          split at hx
          · rename_i z
            rw [hG] at z
            cases z
          · exact (dc_kz_no hx).elim
          · rename_i hd _ hlu
            have fin : ∀ kk : Option Value → dc_M → Option dc_X, (∀ r m1, kk r m1 = k (pc + 3) L (r.toList ++ rest) m1) → dc_lf u N M Q (hd A m kk) → dc_wf u h' ∧ Q r (dc_vw h') := fun kk hkk hP => by
              have c := hC _ _ hlu M' hG n A m kk (dc_lf u N M Q) (fun z => dc_kz_no z) hP
              obtain ⟨w1, w2⟩ := c d h wf hv n (Nat.le_refl _) r1 g1 hr1
              rw [hkk] at w2
              exact hk _ _ _ _ _ hs w2 (d + 1) g1 w1 rfl n (by omega) r h' e
            have t1 : ∀ X : List Value, (As.reverse ++ X).take it.2.2.2.2.1 = As.reverse := fun X => List.take_left' (by rw [List.length_reverse, hlen])
            have t2 : ∀ X : List Value, (As.reverse ++ X).drop it.2.2.2.2.1 = X := fun X => List.drop_left' (by rw [List.length_reverse, hlen])
            rcases hcase with ⟨z, -, rfl, rfl⟩ | ⟨z, -, a, fs, rfl, rfl, -⟩ | ⟨z, -, a, rfl, rfl⟩ | ⟨z, -, a, -, rfl, rfl⟩
            · rw [if_pos z, t1, t2, List.reverse_reverse] at hx
              exact fin _ (fun _ _ => rfl) hx
            · rw [if_neg (by omega), t1, t2, List.reverse_reverse] at hx
              exact fin _ (fun _ _ => rfl) hx
            · rw [if_neg (by omega), t1, t2, List.reverse_reverse] at hx
              exact fin _ (fun _ _ => rfl) hx
            · rw [if_neg (by omega), t1, t2, List.reverse_reverse] at hx
              exact fin _ (fun _ _ => rfl) hx
theorem dc_none_cal {i : Nat} (h1 : ab_at M.2.2.2.2.2 pc = some it) (h2 : ab_kd it = 2) (h3 : it.2.2.1 = 5 ∨ it.2.2.1 = 8) : dc_pv u (N + 1) M pc lv st m Q := fun d h wf hv n hn r h' e => by
  cases n with
  | zero => cases e
  | succ n =>
    unfold ab_ex at e
    simp only [h1, h2] at e
    cases d with
    | zero => cases e
    | succ d =>
      dsimp only at e
      split at e
      · cases e
      · rename_i q hq
        obtain ⟨M', A, rest⟩ := q
        obtain ⟨-, -, -, As, -, hcase⟩ := ab_cal_of hq
        exfalso
        rcases hcase with ⟨z, -⟩ | ⟨z, -⟩ | ⟨z, -⟩ | ⟨z, -⟩ <;> omega
theorem dc_onek {C : List (Nat × dc_H)} (hC : ∀ id hd, dc_lu C id = some hd → dc_cok u id hd) (h1 : ab_at M.2.2.2.2.2 pc = some it) (hk : dc_kk u N M Q k) (hs : dc_sub L lv) (hx : dc_lf u N M Q (dc_one u C M.2.2.1 it pc L st m k)) : dc_pv u (N + 1) M pc lv st m Q := by
  unfold dc_one at hx
  split at hx
  · rename_i i hi; exact dc_ldk (pc' := pc + 1) h1 (by unfold ab_kd; rw [hi]) (fun h s e => by simp only [ab_sp, hi] at e; exact dc_ild e) hk hs hx
  · rename_i i hi; exact dc_ldk (pc' := pc + 2) h1 (by unfold ab_kd; rw [hi]) (fun h s e => by simp only [ab_sp, hi] at e; exact dc_ild e) hk hs hx
  · rename_i i hi; exact dc_ldk (pc' := pc + 1) h1 (by unfold ab_kd; rw [hi]) (fun h s e => by simp only [ab_sp, hi] at e; exact dc_lld e) hk hs hx
  · rename_i i hi; exact dc_ldk (pc' := pc + 2) h1 (by unfold ab_kd; rw [hi]) (fun h s e => by simp only [ab_sp, hi] at e; exact dc_lld e) hk hs hx
  · rename_i i hi; exact dc_ldk (pc' := pc + 1) h1 (by unfold ab_kd; rw [hi]) (fun h s e => by simp only [ab_sp, hi] at e; exact dc_ald e) hk hs hx
  · rename_i i hi; exact dc_ldk (pc' := pc + 2) h1 (by unfold ab_kd; rw [hi]) (fun h s e => by simp only [ab_sp, hi] at e; exact dc_ald e) hk hs hx
  · rename_i i hi; exact dc_s1k (pc' := pc + 1) h1 (by unfold ab_kd; rw [hi]) (fun h s e => by simp only [ab_sp, hi] at e; exact dc_ist e) hk hs hx
  · rename_i i hi; exact dc_s1k (pc' := pc + 2) h1 (by unfold ab_kd; rw [hi]) (fun h s e => by simp only [ab_sp, hi] at e; exact dc_ist e) hk hs hx
  · rename_i i hi; exact dc_s2k (pc' := pc + 1) h1 (by unfold ab_kd; rw [hi]) (fun h s e => by simp only [ab_sp, hi] at e; exact dc_lst e) hk hs hx
  · rename_i i hi; exact dc_s2k (pc' := pc + 2) h1 (by unfold ab_kd; rw [hi]) (fun h s e => by simp only [ab_sp, hi] at e; exact dc_lst e) hk hs hx
  · rename_i i hi; exact dc_s1k (pc' := pc + 1) h1 (by unfold ab_kd; rw [hi]) (fun h s e => by simp only [ab_sp, hi] at e; exact dc_ast e) hk hs hx
  · rename_i i hi; exact dc_s1k (pc' := pc + 2) h1 (by unfold ab_kd; rw [hi]) (fun h s e => by simp only [ab_sp, hi] at e; exact dc_ast e) hk hs hx
  · rename_i i n hi; exact dc_inck h1 hi hk hs hx
  · rename_i c off hi; exact dc_ifk h1 hi hk hs hx
  · rename_i c off hi; exact dc_ick h1 hi hk hs hx
  · rename_i d lo hi' offs hi
    refine dc_tsk h1 hi hk hs (fun x r hst => ?_)
    subst hst
    dsimp only at hx
    split at hx
    · rename_i q; exact ⟨q, hx⟩
    · exact (dc_kz_no hx).elim
  · rename_i d ps hi
    refine dc_lkk h1 hi hk hs (fun x r hst => ?_)
    subst hst
    exact hx
  · rename_i i hi; exact dc_getk h1 hi hk hs hx
  · rename_i i hi; exact dc_putk h1 hi hk hs hx
  · rename_i hi; exact dc_ialk h1 hi hk hs hx
  · rename_i hi; exact dc_balk h1 hi hk hs hx
  · rename_i hi; exact dc_lalk h1 hi hk hs hx
  · rename_i hi; exact dc_aalk h1 hi hk hs hx
  · rename_i hi; exact dc_lenk h1 hi hk hs hx
  · rename_i hi; exact dc_iask h1 hi hk hs hx
  · rename_i hi; exact dc_bask h1 hi hk hs hx
  · rename_i hi; exact dc_lask h1 hi hk hs hx
  · rename_i hi; exact dc_dvk h1 (by unfold ab_kd; rw [hi]) (fun h => by simp only [ab_sp, hi]) hk hs hx
  · rename_i hi; exact dc_dvk h1 (by unfold ab_kd; rw [hi]) (fun h => by simp only [ab_sp, hi]) hk hs hx
  · rename_i hi
    refine dc_rek h1 (by unfold ab_kd; rw [hi]) (fun h r h' e hv => ?_)
    unfold ab_rt at e
    rw [hi] at e
    dsimp only at e
    split at e
    · split at e
      · split at e
        · cases e; exact ⟨rfl, hx⟩
        · cases e
      · cases e
    · cases e
  · rename_i hi
    refine dc_rek h1 (by unfold ab_kd; rw [hi]) (fun h r h' e hv => ?_)
    unfold ab_rt at e
    rw [hi] at e
    dsimp only at e
    split at e
    · split at e
      · cases e; exact ⟨rfl, hx⟩
      · cases e
    · cases e
  · rename_i hi
    refine dc_rek h1 (by unfold ab_kd; rw [hi]) (fun h r h' e hv => ?_)
    unfold ab_rt at e
    rw [hi] at e
    dsimp only at e
    split at e
    · split at e
      · cases e; exact ⟨rfl, hx⟩
      · cases e
    · cases e
  · rename_i i hi
    exact dc_calk hC h1 (by unfold ab_kd; rw [hi]) hk hs hx
  · rename_i i hi
    by_cases h8 : it.2.2.1 = 8
    · unfold dc_cal at hx
      rw [if_neg (by omega), if_pos h8] at hx
      exact dc_cpyk h1 hi h8 hk hs hx
    · exact dc_calk hC h1 (by unfold ab_kd; rw [hi]; exact if_neg h8) hk hs hx
  · rename_i i hi
    by_cases h5 : it.2.2.1 = 5
    · unfold dc_cal at hx
      rw [if_pos h5] at hx
      exact (dc_kz_no hx).elim
    · exact dc_calk hC h1 (by unfold ab_kd; rw [hi]; exact if_neg h5) hk hs hx
  · exact dc_plk h1 hk hs hx
/-- a block's tree says what the run does -/
theorem dc_ok {C : List (Nat × dc_H)} {S : List (Nat × List Nat)} (hC : ∀ id hd, dc_lu C id = some hd → dc_cok u id hd) : ∀ (n pc : Nat) (L lv : ab_L) (st : List Value) (m : dc_M), dc_sub L lv → dc_lf u N M Q (dc_pm u C S M n pc L st m) → dc_pv u (N + 1) M pc lv st m Q := by
  intro n
  induction n with
  | zero => intro pc L lv st m _ hx; exact (dc_kz_no hx).elim
  | succ n ih =>
    intro pc L lv st m hs hx
    unfold dc_pm at hx
    split at hx
    · exact (dc_kz_no hx).elim
    · rename_i it h1
      refine dc_onek hC h1 (fun pc' L' lv' st' m' hs' hx' => ?_) hs hx
      split at hx'
      · rename_i li hli
        exact hx' lv' (dc_fs_of hs' li)
      · exact (ih pc' L' lv' st' m' hs' hx').mono (Nat.le_succ _)
end DC
/-! ===== loops ===== -/
def dc_it {σ τ : Type} (f : σ → Option (σ ⊕ τ)) : Nat → σ → Option τ
  | 0, _ => none
  | n + 1, s => match f s with
    | none => none
    | some (.inl s') => dc_it f n s'
    | some (.inr e) => some e
theorem dc_it_up {σ τ : Type} {f : σ → Option (σ ⊕ τ)} {e : τ} : ∀ (n k : Nat) (s : σ), dc_it f n s = some e → dc_it f (n + k) s = some e
  | 0, _, _, h => by cases h
  | n + 1, k, s, h => by
    rw [Nat.add_right_comm]
    unfold dc_it at h ⊢
    split at h
    · cases h
    · exact dc_it_up n k _ h
    · exact h
theorem dc_it_eq {σ τ : Type} {f : σ → Option (σ ⊕ τ)} {e e' : τ} {n k : Nat} {s : σ} (h : dc_it f n s = some e) (h' : dc_it f k s = some e') : e = e' := by
  have a := dc_it_up n k s h
  have b := dc_it_up k n s h'
  rw [Nat.add_comm, a] at b
  cases b
  rfl
noncomputable def dc_lp {σ τ : Type} (f : σ → Option (σ ⊕ τ)) (s : σ) : Option τ := @dite _ (∃ e, ∃ n, dc_it f n s = some e) (Classical.propDecidable _) (fun h => some h.choose) (fun _ => none)
theorem dc_lp_of {σ τ : Type} {f : σ → Option (σ ⊕ τ)} {s : σ} {e : τ} {n : Nat} (h : dc_it f n s = some e) : dc_lp f s = some e := by
  have q : ∃ e, ∃ n, dc_it f n s = some e := ⟨e, n, h⟩
  unfold dc_lp
  rw [dif_pos q]
  obtain ⟨k, hk⟩ := q.choose_spec
  rw [dc_it_eq hk h]
theorem dc_lp_to {σ τ : Type} {f : σ → Option (σ ⊕ τ)} {s : σ} {e : τ} (h : dc_lp f s = some e) : ∃ n, dc_it f n s = some e := by
  unfold dc_lp at h
  split at h
  · rename_i q
    cases h
    exact q.choose_spec
  · cases h
noncomputable def dc_bk {σ τ : Type} (f : σ → Option (σ ⊕ τ)) (x : σ ⊕ τ) : Option τ := match x with
  | .inl s => dc_lp f s
  | .inr e => some e
theorem dc_lp_eq {σ τ : Type} {f : σ → Option (σ ⊕ τ)} {s : σ} : dc_lp f s = (f s).bind (dc_bk f) := by
  cases hf : f s with
  | none =>
    cases h : dc_lp f s with
    | none => rfl
    | some e =>
      obtain ⟨n, hn⟩ := dc_lp_to h
      cases n with
      | zero => cases hn
      | succ n => unfold dc_it at hn; rw [hf] at hn; cases hn
  | some x =>
    cases x with
    | inr e => exact dc_lp_of (n := 1) (by unfold dc_it; rw [hf])
    | inl s' =>
      show dc_lp f s = dc_lp f s'
      cases h : dc_lp f s' with
      | some e =>
        obtain ⟨n, hn⟩ := dc_lp_to h
        exact dc_lp_of (n := n + 1) (by unfold dc_it; rw [hf]; exact hn)
      | none =>
        cases h2 : dc_lp f s with
        | none => rfl
        | some e =>
          obtain ⟨n, hn⟩ := dc_lp_to h2
          cases n with
          | zero => cases hn
          | succ n =>
            unfold dc_it at hn
            rw [hf] at hn
            rw [dc_lp_of hn] at h
            cases h
theorem dc_lp_inv {σ τ : Type} {f : σ → Option (σ ⊕ τ)} (I : σ → Prop) (P : τ → Prop) (h1 : ∀ s s', I s → f s = some (.inl s') → I s') (h2 : ∀ s e, I s → f s = some (.inr e) → P e) {s : σ} {e : τ} (hs : I s) (h : dc_lp f s = some e) : P e := by
  obtain ⟨n, hn⟩ := dc_lp_to h
  clear h
  induction n generalizing s with
  | zero => cases hn
  | succ n ih =>
    unfold dc_it at hn
    split at hn
    · cases hn
    · rename_i s' hf
      exact ih (h1 s s' hs hf) hn
    · rename_i e' hf
      cases hn
      exact h2 s e hs hf
theorem dc_lp_sim {σ τ σ' τ' : Type} {f : σ → Option (σ ⊕ τ)} {g : σ' → Option (σ' ⊕ τ')} (R : σ → σ' → Prop) (E : τ → τ' → Prop) (h1 : ∀ s t x y, R s t → f s = some x → g t = some y → (∃ s' t', x = .inl s' ∧ y = .inl t' ∧ R s' t') ∨ (∃ e e', x = .inr e ∧ y = .inr e' ∧ E e e')) {s : σ} {t : σ'} {e : τ} {e' : τ'} (hs : R s t) (hf : dc_lp f s = some e) (hg : dc_lp g t = some e') : E e e' := by
  obtain ⟨n, hn⟩ := dc_lp_to hf
  obtain ⟨k, hk⟩ := dc_lp_to hg
  clear hf hg
  induction n generalizing s t k with
  | zero => cases hn
  | succ n ih =>
    cases k with
    | zero => cases hk
    | succ k =>
      unfold dc_it at hn hk
      cases hf : f s with
      | none => rw [hf] at hn; cases hn
      | some x =>
        cases hg : g t with
        | none => rw [hg] at hk; cases hk
        | some y =>
          rw [hf] at hn
          rw [hg] at hk
          rcases h1 s t x y hs hf hg with ⟨s', t', rfl, rfl, r⟩ | ⟨a, b, rfl, rfl, r⟩
          · exact ih r hn k hk
          · cases hn
            cases hk
            exact r
/-! ===== for the printed texts ===== -/
def dc_CO (u : Nat) (C : List (Nat × dc_H)) : Prop := ∀ id hd, dc_lu C id = some hd → dc_cok u id hd
theorem dc_CO_nil {u : Nat} : dc_CO u [] := fun _ _ h => by cases h
theorem dc_CO_cons {u i : Nat} {h : dc_H} {C : List (Nat × dc_H)} (a : dc_cok u i h) (b : dc_CO u C) : dc_CO u ((i, h) :: C) := fun id hd e => by
  unfold dc_lu at e
  split at e
  · rename_i q
    cases e
    have q : i = id := q
    rw [← q]
    exact a
  · exact b id hd e
theorem dc_sub_nil {lv : ab_L} : dc_sub [] lv := fun _ _ h => by cases h
theorem dc_sub_cons {lv L : ab_L} {i : Nat} {v : Value} (a : ab_lk lv i = some v) (b : dc_sub L lv) : dc_sub ((i, v) :: L) lv := fun j w e => by
  unfold ab_lk at e
  split at e
  · rename_i q
    cases e
    have q : i = j := q
    rw [← q]
    exact a
  · exact b j w e
theorem dc_ite {T : Type} {Ψ : T → Option dc_X → Prop} {c : Prop} [Decidable c] {a b : T} {x y : Option dc_X} (h1 : c → Ψ a x) (h2 : ¬ c → Ψ b y) : Ψ (if c then a else b) (if c then x else y) := by
  by_cases h : c
  · rw [if_pos h, if_pos h]; exact h1 h
  · rw [if_neg h, if_neg h]; exact h2 h
theorem dc_itel {T : Type} {Ψ : T → Option dc_X → Prop} {c : Prop} [Decidable c] {b : T} {x y : Option dc_X} (h1 : Ψ b x) (h2 : ¬ c → Ψ b y) : Ψ b (if c then x else y) := by
  by_cases h : c
  · rw [if_pos h]; exact h1
  · rw [if_neg h]; exact h2 h
theorem dc_iter {T : Type} {Ψ : T → Option dc_X → Prop} {c : Prop} [Decidable c] {b : T} {x y : Option dc_X} (h1 : c → Ψ b x) (h2 : Ψ b y) : Ψ b (if c then x else y) := by
  by_cases h : c
  · rw [if_pos h]; exact h1 h
  · rw [if_neg h]; exact h2
theorem dc_bnd {T A : Type} {Ψ : Option T → Option dc_X → Prop} {F : Option A} {a : A → Option T} {x : A → Option dc_X} (h0 : Ψ none none) (h : ∀ q, Ψ (a q) (x q)) : Ψ (F.bind a) (F.bind x) := by
  cases F with
  | none => exact h0
  | some q => exact h q
theorem dc_ltt {T A : Type} {Ψ : T → Option dc_X → Prop} {F : A} {a : A → T} {x : A → Option dc_X} (h : ∀ q, Ψ (a q) (x q)) : Ψ (dc_let F a) (dc_let F x) := h F
theorem dc_pv.imp {u N : Nat} {M : ab_M} {pc : Nat} {lv : ab_L} {st : List Value} {m : dc_M} {Q Q' : Option Value → dc_M → Prop} (h : dc_pv u N M pc lv st m Q) (k : ∀ r m', Q r m' → Q' r m') : dc_pv u N M pc lv st m Q' := fun d g w v n hn r g' hx => by
  obtain ⟨a, b⟩ := h d g w v n hn r g' hx
  exact ⟨a, k _ _ b⟩
theorem dc_pv_zero {u : Nat} {M : ab_M} {pc : Nat} {lv : ab_L} {st : List Value} {m : dc_M} {Q : Option Value → dc_M → Prop} : dc_pv u 0 M pc lv st m Q := fun _ _ _ _ => pa_zero
