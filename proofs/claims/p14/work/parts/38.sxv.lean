/-! ===== the wider checker is sound: division, variables, branches ===== -/
section SX7
variable {SP : List sx_C} {z L : Nat} {xs : Nat → Int32} {Mo : List Nat} {β : Nat → Int} {A B : sx_S} {lv lv' : ab_L} {st st' : List Value} {h h' : ab_H} {l : List (Nat × sx_S)} {pc p n i nL nx : Nat}
def sx_opd (SP : List sx_C) (z L : Nat) (xs : Nat → Int32) (lv : ab_L) (h : ab_H) (f : Int32 → Int32 → Int32) (F : Nat → sx_E → sx_E → sx_S → sx_R) : Prop := ∀ (p : Nat) (x y : sx_E) (A : sx_S) (st : List Value) (l : List (Nat × sx_S)) (β : Nat → Int) (a b : Int32), sx_xi A β x a.toInt → sx_xi A β y b.toInt → sx_ok SP z L xs A β lv st h → F p x y A = some l → b ≠ 0 ∧ sx_t1 SP z L xs A β l p lv (.int (f a b) :: st) h
theorem sx_z_dv {f : Int32 → Int32 → Int32} {F : Nat → sx_E → sx_E → sx_S → sx_R} (hF : sx_opd SP z L xs lv h f F) (g : sx_ok SP z L xs A β lv st h) (hs : sx_b2 F pc A = some l) : sx_to SP z L xs Mo (sx_nx A) β h l (ab_dv f pc lv st h) := by
  unfold sx_b2 at hs
  split at hs
  · rename_i y x r hst
    obtain ⟨b, q1, rfl, hb, h1⟩ := sx_pi (g.sts hst)
    obtain ⟨a, q, rfl, ha, h2⟩ := sx_pi h1
    have t := hF (pc + 1) x y (sx_k r A) q l β a b ha hb (g.stk h2) hs
    exact sx_t1.to (A := sx_k r A) t.2 (if_neg t.1)
  · cases hs
theorem sx_ok.nw2 (g : sx_ok SP z L xs A β lv st h) (v : Int) (hn : sx_nx B = sx_nx A + 1) (k : ∀ β', sx_ag (sx_nx A) β β' → sx_at SP z L xs A β' lv st h → β' (sx_nx A) = v → sx_at SP z L xs B β' lv' st' h') : sx_ok SP z L xs B (sx_bu β (sx_nx A) v) lv' st' h' := fun β' ha => by
  have h1 : sx_ag (sx_nx A) β β' := fun s hs => by
    rw [ha s (by omega)]
    exact sx_bu_ag s hs
  refine k β' h1 (g β' h1) ?_
  rw [ha (sx_nx A) (by omega)]
  unfold sx_bu
  rw [if_pos rfl]
theorem sx_t1.fresh2 (g : sx_ok SP z L xs A β lv st h) (v : Int) (hn : sx_nx B = sx_nx A + 1) (hl : (p, B) ∈ l) (k : ∀ β', sx_ag (sx_nx A) β β' → sx_at SP z L xs A β' lv st h → β' (sx_nx A) = v → sx_at SP z L xs B β' lv' st' h) : sx_t1 SP z L xs A β l p lv' st' h :=
  ⟨B, _, hl, by omega, sx_bu_ag, g.nw2 v hn k⟩
theorem sx_odiv_ok : sx_opd SP z L xs lv h (fun x y => x / y) sx_odiv := fun p x y A st l β a b hx hy g hs => by
  unfold sx_odiv at hs
  have hk := sx_vi (a / b)
  split at hs
  · rename_i u v hu hv
    have bu := sx_bd_ok g.at.nf hu
    have bv := sx_bd_ok g.at.nf hv
    rw [← hx β sx_ag.rf] at bu
    rw [← hy β sx_ag.rf] at bv
    have hz : 0 < v.1 ∨ v.2 < 0 → b ≠ 0 := fun q e => by
      rw [e] at bv
      have e0 : (0 : Int32).toInt = 0 := rfl
      omega
    split at hs
    · rename_i hc
      refine ⟨hz (Or.inl hc.2), ?_⟩
      have e : (a / b).toInt = a.toInt / b.toInt := by
        rw [Int32.toInt_div, Int.tdiv_eq_ediv_of_nonneg (by omega)]
        have h1 := Int.ediv_nonneg (a := a.toInt) (b := b.toInt) (by omega) (by omega)
        have h2 := Int.ediv_le_self (a := a.toInt) b.toInt (by omega)
        have h3 := a.toInt_lt
        exact sx_bm (by omega) (by omega)
      split at hs
      · rename_i h2
        cases hs
        have hb := hy β sx_ag.rf
        rw [sx_ev_c h2.1, h2.2] at hb
        rw [hb] at e
        refine sx_t1.fresh2 g (a / b).toInt rfl (List.mem_singleton.mpr rfl) (fun β' ha g' hv => ?_)
        have hxa := hx β' ha
        refine ((g'.new (by rw [hv, e]; omega) (by rw [hv, e]; omega)).fact (fun f hf => ?_)).push (hk.v (by rw [sx_ev_Y, hv]))
        rcases List.mem_cons.mp hf with rfl | hf
        · rw [sx_ev_sub, sx_ev_mk, sx_ev_Y, hv, ← hxa]
          omega
        · rw [List.mem_singleton] at hf
          subst hf
          rw [sx_ev_ak, sx_ev_sub, sx_ev_mk, sx_ev_Y, hv, ← hxa]
          omega
      · have h3 : 0 ≤ a.toInt / b.toInt := Int.ediv_nonneg (by omega) (by omega)
        have h4 : a.toInt / b.toInt ≤ u.2 / v.1 := by
          rw [Int.le_ediv_iff_mul_le hc.2]
          have h5 := Int.mul_le_mul_of_nonneg_left bv.1 h3
          have h6 := Int.ediv_mul_le a.toInt (b := b.toInt) (by omega)
          omega
        exact sx_fp_ok hk (by rw [e]; exact h3) (by rw [e]; exact h4) g hs
    · split at hs
      · rename_i hc
        exact ⟨hz hc, sx_full_ok hk g hs⟩
      · cases hs
  · cases hs
theorem sx_orem_ok : sx_opd SP z L xs lv h (fun x y => x - x / y * y) sx_orem := fun p x y A st l β a b hx hy g hs => by
  unfold sx_orem at hs
  have hk := sx_vi (a - a / b * b)
  split at hs
  · rename_i u v hu hv
    have bu := sx_bd_ok g.at.nf hu
    have bv := sx_bd_ok g.at.nf hv
    rw [← hx β sx_ag.rf] at bu
    rw [← hy β sx_ag.rf] at bv
    have hz : 0 < v.1 ∨ v.2 < 0 → b.toInt ≠ 0 := fun q e => by omega
    have hz2 : b.toInt ≠ 0 → b ≠ 0 := fun q e => q (by rw [e]; rfl)
    split at hs
    · rename_i hc
      have h0 := hz (Or.inl hc.2)
      refine ⟨hz2 h0, ?_⟩
      have e := sx_rm (a := a) (b := b) h0
      rw [Int.tmod_eq_emod_of_nonneg (by omega)] at e
      have h1 := Int.emod_nonneg a.toInt h0
      have h2 := Int.emod_lt_of_pos a.toInt (b := b.toInt) (by omega)
      have h3 : a.toInt % b.toInt ≤ a.toInt := by
        have := Int.emod_add_mul_ediv a.toInt b.toInt
        have h4 : 0 ≤ b.toInt * (a.toInt / b.toInt) := Int.mul_nonneg (by omega) (Int.ediv_nonneg (by omega) (by omega))
        omega
      cases hs
      refine sx_t1.fresh2 g (a - a / b * b).toInt rfl (List.mem_singleton.mpr rfl) (fun β' ha g' hv => ?_)
      refine ((g'.new (by rw [hv, e]; exact h1) (by rw [hv, e]; split <;> omega)).fact (fun f hf => ?_)).push (hk.v (by rw [sx_ev_Y, hv]))
      rw [List.mem_singleton] at hf
      subst hf
      rw [sx_ev_ak, sx_ev_sub, sx_ev_Y, hv, ← hy β' ha, e]
      omega
    · split at hs
      · rename_i hc
        have h0 := hz hc
        refine ⟨hz2 h0, ?_⟩
        have e := sx_rm (a := a) (b := b) h0
        have h2 : (a.toInt.tmod b.toInt).natAbs < b.toInt.natAbs := by
          rw [Int.natAbs_tmod]
          exact Nat.mod_lt _ (by omega)
        exact sx_fp_ok hk (by rw [e]; omega) (by rw [e]; omega) g hs
      · cases hs
  · cases hs
theorem sx_lk_mem {i : Nat} {v : sx_V} : ∀ {l : List (Nat × sx_V)}, sx_lk i l = some v → (i, v) ∈ l
  | [], h => by cases h
  | q :: r, h => by
    unfold sx_lk at h
    by_cases hq : q.1 = i
    · rw [if_pos hq] at h
      cases h
      subst hq
      exact List.mem_cons_self
    · rw [if_neg hq] at h
      exact List.mem_cons_of_mem _ (sx_lk_mem h)
theorem sx_lk_filter {f : Nat × Value → Bool} {j : Nat} {w : Value} : ∀ {lv : ab_L}, ab_lk lv j = some w → f (j, w) = true → ab_lk (lv.filter f) j = some w
  | [], h, _ => by cases h
  | q :: r, h, hf => by
    unfold ab_lk at h
    by_cases hq : q.1 = j
    · rw [if_pos hq] at h
      cases h
      have e : q = (j, q.2) := by rw [← hq]
      rw [List.filter_cons, if_pos (by rw [e]; exact hf)]
      unfold ab_lk
      exact if_pos hq
    · rw [if_neg hq] at h
      have ih := sx_lk_filter h hf
      rw [List.filter_cons]
      split
      · unfold ab_lk
        rw [if_neg hq]
        exact ih
      · exact ih
theorem sx_two_cat {v : sx_V} {w : Value} (hv : sx_v β v w) : (w.category == 2) = sx_two v := by
  unfold sx_v at hv
  split at hv
  all_goals first | rfl | exact hv.elim
theorem sx_cat1 {v : sx_V} {w : Value} (hv : sx_v β v w) (hk : sx_two v = false) : w.category = 1 := by
  have h1 := sx_two_cat hv
  rw [hk] at h1
  cases w <;> first | rfl | cases h1
theorem sx_at.s1 {v : sx_V} {w : Value} {r : List sx_V} {q : List Value} (g : sx_at SP z L xs A β lv st h) (hv : sx_v β v w) (hr : sx_st β r q) : sx_at SP z L xs (sx_s1 i v A.1, r, A.2.2) β (ab_s1 i w lv) q h := by
  refine ⟨fun u hu => ?_, hr, g.2.2⟩
  rcases List.mem_cons.mp hu with rfl | hu
  · refine ⟨w, ?_, hv⟩
    unfold ab_s1 ab_lk
    exact if_pos rfl
  · obtain ⟨hm, hp⟩ := List.mem_filter.mp hu
    obtain ⟨x, hx, hxv⟩ := g.1 u hm
    refine ⟨x, ?_, hxv⟩
    have hji : ¬ i = u.1 := by
      intro e
      subst e
      simp at hp
    unfold ab_s1 ab_lk
    rw [if_neg hji]
    refine sx_lk_filter hx ?_
    dsimp only
    rw [sx_two_cat hxv]
    exact hp
theorem sx_at.s2 {v : sx_V} {w : Value} {r : List sx_V} {q : List Value} (g : sx_at SP z L xs A β lv st h) (hv : sx_v β v w) (hr : sx_st β r q) : sx_at SP z L xs (sx_s2 i v A.1, r, A.2.2) β (ab_s2 i w lv) q h := by
  refine ⟨fun u hu => ?_, hr, g.2.2⟩
  rcases List.mem_cons.mp hu with rfl | hu
  · refine ⟨w, ?_, hv⟩
    unfold ab_s2 ab_lk
    exact if_pos rfl
  · obtain ⟨hm, hp⟩ := List.mem_filter.mp hu
    obtain ⟨x, hx, hxv⟩ := g.1 u hm
    refine ⟨x, ?_, hxv⟩
    have hji : ¬ i = u.1 := by
      intro e
      subst e
      simp at hp
    unfold ab_s2 ab_lk
    rw [if_neg hji]
    refine sx_lk_filter hx ?_
    dsimp only
    rw [sx_two_cat hxv]
    exact hp
/-- a variable's value -/
theorem sx_ok.lk {v : sx_V} (g : sx_ok SP z L xs A β lv st h) (hv : sx_lk i A.1 = some v) : ∃ w, ab_lk lv i = some w ∧ ∀ β', sx_ag (sx_nx A) β β' → sx_v β' v w := by
  obtain ⟨w, hw, -⟩ := g.at.1 _ (sx_lk_mem hv)
  refine ⟨w, hw, fun β' ha => ?_⟩
  obtain ⟨w', hw', hv'⟩ := (g β' ha).1 _ (sx_lk_mem hv)
  have e : w = w' := Option.some.inj (hw.symm.trans hw')
  rw [e]
  exact hv'
theorem sx_ok.pu {v : sx_V} {w : Value} (g : sx_ok SP z L xs A β lv st h) (hv : ∀ β', sx_ag (sx_nx A) β β' → sx_v β' v w) : sx_ok SP z L xs (sx_p v A) β lv (w :: st) h := fun β' ha => (g β' ha).push (hv β' ha)
theorem sx_to.one {A' : sx_S} {st' : List Value} {r : Option ab_S} (hr : r = some (p, lv', st', h)) (hl : l = [(p, A')]) (hn : sx_nx A' = n) (g : sx_ok SP z L xs A' β lv' st' h) : sx_to SP z L xs Mo n β h l r := ⟨p, lv', st', h, A', β, hr, by rw [hl]; exact List.mem_singleton.mpr rfl, by omega, sx_ag.rf, g, sx_fr.rf⟩
theorem sx_z_ild (g : sx_ok SP z L xs A β lv st h) (hs : sx_ld 0 i n pc A = some l) : sx_to SP z L xs Mo (sx_nx A) β h l (ab_ild i n pc lv st h) := by
  unfold sx_ld at hs
  split at hs
  · rename_i e he
    cases hs
    obtain ⟨w, hw, hv⟩ := g.lk he
    cases w with
    | int x => exact sx_to.one (by unfold ab_ild; rw [hw]) rfl rfl (g.pu hv)
    | _ => exact (hv β sx_ag.rf).elim
  all_goals first | (rw [if_neg (by decide)] at hs; cases hs) | cases hs
theorem sx_z_lld (g : sx_ok SP z L xs A β lv st h) (hs : sx_ld 1 i n pc A = some l) : sx_to SP z L xs Mo (sx_nx A) β h l (ab_lld i n pc lv st h) := by
  unfold sx_ld at hs
  split at hs
  · rw [if_neg (by decide)] at hs; cases hs
  · rename_i e he
    cases hs
    obtain ⟨w, hw, hv⟩ := g.lk he
    cases w with
    | long x => exact sx_to.one (by unfold ab_lld; rw [hw]) rfl rfl (g.pu hv)
    | _ => exact (hv β sx_ag.rf).elim
  all_goals first | (rw [if_neg (by decide)] at hs; cases hs) | cases hs
theorem sx_z_ald (g : sx_ok SP z L xs A β lv st h) (hs : sx_ld 2 i n pc A = some l) : sx_to SP z L xs Mo (sx_nx A) β h l (ab_ald i n pc lv st h) := by
  unfold sx_ld at hs
  split at hs
  · rw [if_neg (by decide)] at hs; cases hs
  · rw [if_neg (by decide)] at hs; cases hs
  · rename_i e he
    cases hs
    obtain ⟨w, hw, hv⟩ := g.lk he
    cases w with
    | ref x => exact sx_to.one (by unfold ab_ald; rw [hw]) rfl rfl (g.pu hv)
    | _ => exact (hv β sx_ag.rf).elim
  · rename_i e he
    cases hs
    obtain ⟨w, hw, hv⟩ := g.lk he
    cases w with
    | retAddr x => exact sx_to.one (by unfold ab_ald; rw [hw]) rfl rfl (g.pu hv)
    | _ => exact (hv β sx_ag.rf).elim
  · cases hs
theorem sx_z_ist (g : sx_ok SP z L xs A β lv st h) (hs : sx_sto nL 0 i n pc A = some l) : sx_to SP z L xs Mo (sx_nx A) β h l (ab_ist nL i n pc lv st h) := by
  unfold sx_sto at hs
  split at hs
  · rename_i e r hst
    split at hs
    · rename_i hk
      cases hs
      obtain ⟨b, q, rfl, hb, h1⟩ := sx_pi (g.sts hst)
      exact sx_to.one (if_pos hk.2) rfl rfl (fun β' ha => (g β' ha).s1 (v := .inl (0, e)) (w := .int b) (hb β' ha) (h1 β' ha))
    · cases hs
  · rw [if_neg (fun q => absurd q.1 (by decide))] at hs; cases hs
  · rw [if_neg (fun q => absurd q.1 (by decide))] at hs; cases hs
  · cases hs
theorem sx_z_lst (g : sx_ok SP z L xs A β lv st h) (hs : sx_sto nL 1 i n pc A = some l) : sx_to SP z L xs Mo (sx_nx A) β h l (ab_lst nL i n pc lv st h) := by
  unfold sx_sto at hs
  split at hs
  · rw [if_neg (fun q => absurd q.1 (by decide))] at hs; cases hs
  · rename_i e r hst
    split at hs
    · rename_i hk
      cases hs
      obtain ⟨b, q, rfl, hb, h1⟩ := sx_pl (g.sts hst)
      exact sx_to.one (if_pos hk.2) rfl rfl (fun β' ha => (g β' ha).s2 (v := .inl (1, e)) (w := .long b) (hb β' ha) (h1 β' ha))
    · cases hs
  · rw [if_neg (fun q => absurd q.1 (by decide))] at hs; cases hs
  · cases hs
theorem sx_z_ast (g : sx_ok SP z L xs A β lv st h) (hs : sx_sto nL 2 i n pc A = some l) : sx_to SP z L xs Mo (sx_nx A) β h l (ab_ast nL i n pc lv st h) := by
  unfold sx_sto at hs
  split at hs
  · rw [if_neg (fun q => absurd q.1 (by decide))] at hs; cases hs
  · rw [if_neg (fun q => absurd q.1 (by decide))] at hs; cases hs
  · rename_i a r hst
    split at hs
    · rename_i hk
      cases hs
      obtain ⟨q, rfl, h1⟩ := sx_pr (g.sts hst)
      exact sx_to.one (if_pos hk.2) rfl rfl (fun β' ha => (g β' ha).s1 (v := .inr (1, a)) (w := .ref a) rfl (h1 β' ha))
    · cases hs
  · cases hs
theorem sx_z_inc {k : Int} (g : sx_ok SP z L xs A β lv st h) (hs : sx_inc nL i k pc A = some l) : sx_to SP z L xs Mo (sx_nx A) β h l (ab_inc nL i k pc lv st h) := by
  unfold sx_inc at hs
  split at hs
  · rename_i e he
    split at hs
    · rename_i hk
      obtain ⟨w, hw, hv⟩ := g.lk he
      cases w with
      | int x =>
        have e0 : (Int32.ofInt k).toInt = k := by rw [Int32.toInt_ofInt]; exact sx_bm hk.2.1 hk.2.2
        have hr : ab_inc nL i k pc lv st h = some (pc + 3, ab_s1 i (.int (x + Int32.ofInt k)) lv, st, h) := by
          unfold ab_inc
          rw [hw]
          exact if_pos hk.1
        split at hs
        · rename_i hi
          cases hs
          refine sx_to.one hr rfl rfl (fun β' ha => ?_)
          have g' := g β' ha
          refine g'.s1 (v := .inl (0, sx_ak e k)) ?_ g'.2.1
          have hb := sx_in_ok g'.nf hi
          have hx : x.toInt = sx_ev β' e := hv β' ha
          rw [sx_ev_ak, ← hx] at hb
          show (x + Int32.ofInt k).toInt = sx_ev β' (sx_ak e k)
          rw [sx_ev_ak, ← hx, Int32.toInt_add, e0, sx_bm hb.1 hb.2]
        · cases hs
          have h1 := (x + Int32.ofInt k).le_toInt
          have h2 := (x + Int32.ofInt k).toInt_lt
          refine ⟨_, _, _, h, _, _, hr, List.mem_singleton.mpr rfl, ?_, sx_bu_ag, g.nw (x + Int32.ofInt k).toInt ?_ (fun β' g' hv' => ?_), sx_fr.rf⟩
          · exact Nat.le_succ _
          · rfl
          · have g2 := g'.new (a := -2147483648) (b := 2147483647) (by rw [hv']; omega) (by rw [hv']; omega)
            refine g2.s1 (v := .inl (0, sx_Y (sx_nx A))) (w := .int (x + Int32.ofInt k)) ?_ g2.2.1
            show _ = sx_ev β' (sx_Y (sx_nx A))
            rw [sx_ev_Y, hv']
      | _ => exact (hv β sx_ag.rf).elim
    · cases hs
  · cases hs
end SX7
