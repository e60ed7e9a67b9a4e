/-! ===== the pure machine is right ===== -/
def dc_pv (u N : Nat) (M : ab_M) (pc : Nat) (lv : ab_L) (st : List Value) (m : dc_M) (Q : Option Value → dc_M → Prop) : Prop := ∀ d h, dc_wf u h → dc_vw h = m → ab_pa N d M pc lv st h (fun r h' => dc_wf u h' ∧ Q r (dc_vw h'))
def dc_fs : List (Nat × Option Value) → ab_L → Prop
  | [], _ => True
  | q :: r, lv => (∀ v, q.2 = some v → ab_lk lv q.1 = some v) ∧ dc_fs r lv
def dc_lf (u N : Nat) (M : ab_M) (Q : Option Value → dc_M → Prop) (x : Option dc_X) : Prop := match x with
  | none => True
  | some (.inl (r, m')) => Q r m'
  | some (.inr (.inl (pc', vs, st', m'))) => ∀ lv1, dc_fs vs lv1 → dc_pv u N M pc' lv1 st' m' Q
  | some (.inr (.inr _)) => False
def dc_sub (L lv : ab_L) : Prop := ∀ i v, ab_lk L i = some v → ab_lk lv i = some v
def dc_cok (u id : Nat) (hd : dc_H) : Prop := ∀ M', ab_G id = some M' → ∀ (N : Nat) (As : List Value) (m : dc_M) (k : Option Value → dc_M → Option dc_X) (P : Option dc_X → Prop), ¬ P dc_kz → P (hd As m k) → dc_pv u N M' 0 (lv_args 0 As) [] m (fun r m' => P (k r m'))
theorem dc_lk_f {p : Nat → Bool} {j : Nat} : ∀ (L : ab_L), ab_lk (L.filter (fun q => p q.1)) j = if p j = true then ab_lk L j else none
  | [] => by simp [ab_lk]
  | q :: r => by
    have ih := dc_lk_f (p := p) (j := j) r
    by_cases hp : p q.1 = true
    · rw [List.filter_cons, if_pos hp]
      unfold ab_lk
      by_cases e : q.1 = j
      · rw [if_pos e, if_pos e, if_pos (by rw [← e]; exact hp)]
      · rw [if_neg e, if_neg e]
        exact ih
    · rw [List.filter_cons, if_neg hp, ih]
      by_cases e : q.1 = j
      · rw [if_neg (by rw [← e]; exact hp), if_neg (by rw [← e]; exact hp)]
      · conv => rhs; unfold ab_lk
        rw [if_neg e]
theorem dc_sub_sv {L lv : ab_L} {i : Nat} {v : Value} (hs : dc_sub L lv) (lv' : ab_L) (two : Bool) (hi : ab_lk lv' i = some v) (ho : ∀ j w, ab_lk lv j = some w → j ≠ i → (two = true → j ≠ i + 1) → ¬ (j + 1 = i ∧ w.category = 2) → ab_lk lv' j = some w) : dc_sub (dc_sv i two v L) lv' := fun j w hj => by
  unfold dc_sv ab_lk at hj
  by_cases e : i = j
  · rw [if_pos e] at hj
    cases hj
    rw [← e]
    exact hi
  · rw [if_neg e, dc_lk_f] at hj
    split at hj
    · rename_i hp
      unfold dc_kp at hp
      rw [hj] at hp
      simp only [Bool.and_eq_true, Bool.not_eq_true', Bool.and_eq_false_iff, beq_eq_false_iff_ne] at hp
      refine ho j w (hs j w hj) (fun q => e q.symm) (fun q => ?_) (fun q => ?_)
      · rcases hp.2.1 with z | z
        · rw [q] at z; cases z
        · exact z
      · rcases hp.2.2 with z | z
        · exact z q.1
        · exact z q.2
    · cases hj
theorem dc_sub_s1 {L lv : ab_L} {i : Nat} {v : Value} (hs : dc_sub L lv) : dc_sub (dc_sv i false v L) (ab_s1 i v lv) := dc_sub_sv hs _ _ mk_s1s (fun _ _ a b _ c => po_s1_other a b c)
theorem dc_sub_s2 {L lv : ab_L} {i : Nat} {v : Value} (hs : dc_sub L lv) : dc_sub (dc_sv i true v L) (ab_s2 i v lv) := dc_sub_sv hs _ _ mk_s2s (fun _ _ a b c d => mk_s2o a b (c rfl) d)
theorem dc_fs_of {L lv : ab_L} (hs : dc_sub L lv) : ∀ li : List Nat, dc_fs (li.map (fun i => (i, ab_lk L i))) lv
  | [] => trivial
  | i :: r => ⟨fun v hv => hs i v hv, dc_fs_of hs r⟩
section DC
variable {u N : Nat} {M : ab_M} {pc pc' : Nat} {lv L : ab_L} {st : List Value} {m : dc_M} {Q : Option Value → dc_M → Prop} {it : ab_I} {k : dc_K}
theorem dc_pv.mono {N' : Nat} (h : dc_pv u N M pc lv st m Q) (hn : N' ≤ N) : dc_pv u N' M pc lv st m Q := fun d g w v n hn' => h d g w v n (Nat.le_trans hn' hn)
theorem dc_st (h1 : ab_at M.2.2.2.2.2 pc = some it) (h2 : ab_kd it = 0) (kk : ∀ h s, dc_wf u h → dc_vw h = m → ab_sp M.2.2.1 it pc lv st h = some s → dc_wf u s.2.2.2 ∧ dc_pv u N M s.1 s.2.1 s.2.2.1 (dc_vw s.2.2.2) Q) : dc_pv u (N + 1) M pc lv st m Q := fun d h wf hv n hn r h' hx => by
  cases n with
  | zero => cases hx
  | succ n =>
    unfold ab_ex at hx
    simp only [h1, h2] at hx
    cases e : ab_sp M.2.2.1 it pc lv st h with
    | none => rw [e] at hx; cases hx
    | some s =>
      rw [e] at hx
      obtain ⟨w, q⟩ := kk h s wf hv e
      exact q d _ w rfl n (by omega) r h' hx
/-- what the rest does -/
def dc_kk (u N : Nat) (M : ab_M) (Q : Option Value → dc_M → Prop) (k : dc_K) : Prop := ∀ pc' L' lv' st' m', dc_sub L' lv' → dc_lf u N M Q (k pc' L' st' m') → dc_pv u N M pc' lv' st' m' Q
theorem dc_kz_no (h : dc_lf u N M Q dc_kz) : False := h
theorem dc_ldk {i : Nat} (h1 : ab_at M.2.2.2.2.2 pc = some it) (h2 : ab_kd it = 0) (hsp : ∀ h s, ab_sp M.2.2.1 it pc lv st h = some s → ∃ v, ab_lk lv i = some v ∧ s = (pc', lv, v :: st, h)) (hk : dc_kk u N M Q k) (hs : dc_sub L lv) (hx : dc_lf u N M Q (dc_ld i pc' L st m k)) : dc_pv u (N + 1) M pc lv st m Q := dc_st h1 h2 (fun h s wf hv e => by
  obtain ⟨v, e1, rfl⟩ := hsp h s e
  unfold dc_ld at hx
  cases el : ab_lk L i with
  | none => rw [el] at hx; exact (dc_kz_no hx).elim
  | some w =>
    rw [el] at hx
    have e2 := hs i w el
    rw [e1] at e2
    cases e2
    exact ⟨wf, by rw [hv]; exact hk _ _ _ _ _ hs hx⟩)
theorem dc_ild {i n : Nat} {h : ab_H} {s : ab_S} (e : ab_ild i n pc lv st h = some s) : ∃ v, ab_lk lv i = some v ∧ s = (pc + n, lv, v :: st, h) := by
  unfold ab_ild at e
  split at e
  · rename_i q; cases e; exact ⟨_, q, rfl⟩
  · cases e
theorem dc_lld {i n : Nat} {h : ab_H} {s : ab_S} (e : ab_lld i n pc lv st h = some s) : ∃ v, ab_lk lv i = some v ∧ s = (pc + n, lv, v :: st, h) := by
  unfold ab_lld at e
  split at e
  · rename_i q; cases e; exact ⟨_, q, rfl⟩
  · cases e
theorem dc_ald {i n : Nat} {h : ab_H} {s : ab_S} (e : ab_ald i n pc lv st h = some s) : ∃ v, ab_lk lv i = some v ∧ s = (pc + n, lv, v :: st, h) := by
  unfold ab_ald at e
  split at e
  · rename_i q; cases e; exact ⟨_, q, rfl⟩
  · rename_i q; cases e; exact ⟨_, q, rfl⟩
  · cases e
theorem dc_s1k {i : Nat} (h1 : ab_at M.2.2.2.2.2 pc = some it) (h2 : ab_kd it = 0) (hsp : ∀ h s, ab_sp M.2.2.1 it pc lv st h = some s → ∃ v r, st = v :: r ∧ s = (pc', ab_s1 i v lv, r, h)) (hk : dc_kk u N M Q k) (hs : dc_sub L lv) (hx : dc_lf u N M Q (dc_s1 i pc' L st m k)) : dc_pv u (N + 1) M pc lv st m Q := dc_st h1 h2 (fun h s wf hv e => by
  obtain ⟨v, r, rfl, rfl⟩ := hsp h s e
  exact ⟨wf, by rw [hv]; exact hk _ _ _ _ _ (dc_sub_s1 hs) hx⟩)
theorem dc_s2k {i : Nat} (h1 : ab_at M.2.2.2.2.2 pc = some it) (h2 : ab_kd it = 0) (hsp : ∀ h s, ab_sp M.2.2.1 it pc lv st h = some s → ∃ v r, st = v :: r ∧ s = (pc', ab_s2 i v lv, r, h)) (hk : dc_kk u N M Q k) (hs : dc_sub L lv) (hx : dc_lf u N M Q (dc_s2 i pc' L st m k)) : dc_pv u (N + 1) M pc lv st m Q := dc_st h1 h2 (fun h s wf hv e => by
  obtain ⟨v, r, rfl, rfl⟩ := hsp h s e
  exact ⟨wf, by rw [hv]; exact hk _ _ _ _ _ (dc_sub_s2 hs) hx⟩)
theorem dc_ist {nL i n : Nat} {h : ab_H} {s : ab_S} (e : ab_ist nL i n pc lv st h = some s) : ∃ v r, st = v :: r ∧ s = (pc + n, ab_s1 i v lv, r, h) := by
  unfold ab_ist at e
  split at e
  · split at e
    · cases e; exact ⟨_, _, rfl, rfl⟩
    · cases e
  · cases e
theorem dc_ast {nL i n : Nat} {h : ab_H} {s : ab_S} (e : ab_ast nL i n pc lv st h = some s) : ∃ v r, st = v :: r ∧ s = (pc + n, ab_s1 i v lv, r, h) := by
  unfold ab_ast at e
  split at e
  · split at e
    · cases e; exact ⟨_, _, rfl, rfl⟩
    · cases e
  · cases e
theorem dc_lst {nL i n : Nat} {h : ab_H} {s : ab_S} (e : ab_lst nL i n pc lv st h = some s) : ∃ v r, st = v :: r ∧ s = (pc + n, ab_s2 i v lv, r, h) := by
  unfold ab_lst at e
  split at e
  · split at e
    · cases e; exact ⟨_, _, rfl, rfl⟩
    · cases e
  · cases e
theorem dc_inck {i : Nat} {n : Int} (h1 : ab_at M.2.2.2.2.2 pc = some it) (hi : it.1 = .iinc i n) (hk : dc_kk u N M Q k) (hs : dc_sub L lv) (hx : dc_lf u N M Q (dc_inc i n pc L st m k)) : dc_pv u (N + 1) M pc lv st m Q := dc_st h1 (by unfold ab_kd; rw [hi]) (fun h s wf hv e => by
  simp only [ab_sp, hi] at e
  unfold ab_inc at e
  split at e
  · rename_i x ex
    split at e
    · cases e
      unfold dc_inc at hx
      cases el : ab_lk L i with
      | none => rw [el] at hx; exact (dc_kz_no hx).elim
      | some w =>
        have e2 := hs i w el
        rw [ex] at e2
        cases e2
        rw [el] at hx
        exact ⟨wf, by rw [hv]; exact hk _ _ _ _ _ (dc_sub_s1 hs) hx⟩
    · cases e
  · cases e)
theorem dc_jp {off : Int} {lv' : ab_L} {st' : List Value} {h : ab_H} {s : ab_S} (e : ab_jp pc off lv' st' h = some s) : s = (dc_tg pc off, lv', st', h) := by
  unfold ab_jp at e
  split at e
  · cases e; rfl
  · cases e
theorem dc_ifk {c : ClassFile.Cond} {off : Int} (h1 : ab_at M.2.2.2.2.2 pc = some it) (hi : it.1 = .ifCond c off) (hk : dc_kk u N M Q k) (hs : dc_sub L lv) (hx : dc_lf u N M Q (dc_if c off pc L st m k)) : dc_pv u (N + 1) M pc lv st m Q := dc_st h1 (by unfold ab_kd; rw [hi]) (fun h s wf hv e => by
  simp only [ab_sp, hi] at e
  unfold ab_if at e
  split at e
  · rename_i x r
    unfold dc_if at hx
    dsimp only at hx
    split at e
    · rename_i hc
      rw [if_pos (show ab_ci c x.toInt 0 from (ab_cd_i c x 0).mp hc)] at hx
      have e := dc_jp e
      subst e
      exact ⟨wf, by rw [hv]; exact hk _ _ _ _ _ hs hx⟩
    · rename_i hc
      rw [if_neg (show ¬ ab_ci c x.toInt 0 from fun q => hc ((ab_cd_i c x 0).mpr q))] at hx
      cases e
      exact ⟨wf, by rw [hv]; exact hk _ _ _ _ _ hs hx⟩
  · cases e)
theorem dc_ick {c : ClassFile.Cond} {off : Int} (h1 : ab_at M.2.2.2.2.2 pc = some it) (hi : it.1 = .if_icmp c off) (hk : dc_kk u N M Q k) (hs : dc_sub L lv) (hx : dc_lf u N M Q (dc_ic c off pc L st m k)) : dc_pv u (N + 1) M pc lv st m Q := dc_st h1 (by unfold ab_kd; rw [hi]) (fun h s wf hv e => by
  simp only [ab_sp, hi] at e
  unfold ab_ic at e
  split at e
  · rename_i y x r
    unfold dc_ic at hx
    dsimp only at hx
    split at e
    · rename_i hc
      rw [if_pos ((ab_cd_i c x y).mp hc)] at hx
      have e := dc_jp e
      subst e
      exact ⟨wf, by rw [hv]; exact hk _ _ _ _ _ hs hx⟩
    · rename_i hc
      rw [if_neg (fun q => hc ((ab_cd_i c x y).mpr q))] at hx
      cases e
      exact ⟨wf, by rw [hv]; exact hk _ _ _ _ _ hs hx⟩
  · cases e)
theorem dc_tl_ok {x : Int} {d : Nat} {kk : Nat → Option dc_X} : ∀ (offs : List Int) (lo : Int), dc_ts x d kk (dc_tl pc lo offs) = if lo ≤ x ∧ x < lo + (offs.length : Int) then (match offs[(x - lo).toNat]? with
    | some o => kk (dc_tg pc o)
    | none => kk d) else kk d
  | [], lo => by
    rw [if_neg (by rw [List.length_nil]; omega)]
    rfl
  | o :: r, lo => by
    unfold dc_tl dc_ts
    by_cases e : x = lo
    · rw [if_pos e, if_pos (by rw [List.length_cons]; omega), show (x - lo).toNat = 0 by omega]
      rfl
    · rw [if_neg e, dc_tl_ok r (lo + 1)]
      by_cases q : lo + 1 ≤ x ∧ x < lo + 1 + (r.length : Int)
      · rw [if_pos q, if_pos (by rw [List.length_cons]; omega), show (x - lo).toNat = (x - (lo + 1)).toNat + 1 by omega]
        rfl
      · rw [if_neg q, if_neg (by rw [List.length_cons]; omega)]
theorem dc_lk_ok {x d : Int} {kk : Nat → Option dc_X} : ∀ (ps : List (Int × Int)), dc_ts x (dc_tg pc d) kk (ps.map (fun q => (q.1, dc_tg pc q.2))) = kk (dc_tg pc (Op.lookupswitch.offset ps d x))
  | [] => rfl
  | q :: r => by
    obtain ⟨a, o⟩ := q
    rw [List.map_cons, Op.lookupswitch.offset_cons]
    unfold dc_ts
    by_cases e : x = a
    · rw [if_pos e, if_pos e.symm]
    · rw [if_neg e, if_neg (fun z => e z.symm)]
      exact dc_lk_ok r
theorem dc_tsk {d lo hi : Int} {offs : Array Int} (h1 : ab_at M.2.2.2.2.2 pc = some it) (hi' : it.1 = .tableswitch d lo hi offs) (hk : dc_kk u N M Q k) (hs : dc_sub L lv) (hx : ∀ x r, st = .int x :: r → lo + (offs.toList.length : Int) = hi + 1 ∧ dc_lf u N M Q (dc_ts x.toInt (dc_tg pc d) (fun p => k p L r m) (dc_tl pc lo offs.toList))) : dc_pv u (N + 1) M pc lv st m Q := dc_st h1 (by unfold ab_kd; rw [hi']) (fun h s wf hv e => by
  simp only [ab_sp, hi'] at e
  unfold ab_tsw at e
  split at e
  · rename_i x r
    obtain ⟨hl, hx⟩ := hx x r rfl
    rw [dc_tl_ok] at hx
    split at e
    · rename_i q
      rw [if_neg (by omega)] at hx
      have e := dc_jp e
      subst e
      exact ⟨wf, by rw [hv]; exact hk _ _ _ _ _ hs hx⟩
    · rename_i q
      rw [if_pos (by omega)] at hx
      split at e
      · rename_i off ho
        have e := dc_jp e
        subst e
        rw [← Array.getElem?_toList] at ho
        rw [ho] at hx
        exact ⟨wf, by rw [hv]; exact hk _ _ _ _ _ hs hx⟩
      · cases e
  · cases e)
theorem dc_lkk {d : Int} {ps : Array (Int × Int)} (h1 : ab_at M.2.2.2.2.2 pc = some it) (hi' : it.1 = .lookupswitch d ps) (hk : dc_kk u N M Q k) (hs : dc_sub L lv) (hx : ∀ x r, st = .int x :: r → dc_lf u N M Q (dc_ts x.toInt (dc_tg pc d) (fun p => k p L r m) (ps.toList.map (fun q => (q.1, dc_tg pc q.2))))) : dc_pv u (N + 1) M pc lv st m Q := dc_st h1 (by unfold ab_kd; rw [hi']) (fun h s wf hv e => by
  simp only [ab_sp, hi'] at e
  unfold ab_lsw at e
  split at e
  · rename_i x r
    have hx := hx x r rfl
    rw [dc_lk_ok] at hx
    split at e
    · have e := dc_jp e
      subst e
      exact ⟨wf, by rw [hv]; exact hk _ _ _ _ _ hs hx⟩
    · cases e
  · cases e)
end DC
