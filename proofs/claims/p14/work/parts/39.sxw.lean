/-! ===== the wider checker is sound: branches, the stack ===== -/
section SX8
variable {SP : List sx_C} {z L : Nat} {xs : Nat → Int32} {Mo : List Nat} {β : Nat → Int} {A B : sx_S} {lv lv' : ab_L} {st st' : List Value} {h h' : ab_H} {l : List (Nat × sx_S)} {pc p n i nL nx : Nat}
/-- a fact that holds whatever the later symbols are -/
theorem sx_as_go (g : sx_ok SP z L xs A β lv st h) {e : sx_E} (he : ∀ β', sx_ag (sx_nx A) β β' → sx_ev β' e ≤ 0) : ∃ B, sx_as A e = some B ∧ sx_nx B = sx_nx A ∧ sx_ok SP z L xs B β lv st h := by
  obtain ⟨B, h1, h2, h3⟩ := sx_as_ok g.at (he β sx_ag.rf)
  refine ⟨B, h1, h3, fun β' ha => ?_⟩
  have ha : sx_ag (sx_nx A) β β' := by rw [← show sx_nx B = sx_nx A from h3]; exact ha
  obtain ⟨B', k1, k2, k3⟩ := sx_as_ok (g β' ha) (he β' ha)
  rw [h1] at k1
  cases k1
  exact k2
theorem sx_ass_go {es : List sx_E} : ∀ {A : sx_S}, sx_ok SP z L xs A β lv st h → (∀ e ∈ es, ∀ β', sx_ag (sx_nx A) β β' → sx_ev β' e ≤ 0) → ∃ B, sx_ass es A = some B ∧ sx_nx B = sx_nx A ∧ sx_ok SP z L xs B β lv st h := by
  induction es with
  | nil => intro A g _; exact ⟨A, rfl, rfl, g⟩
  | cons e r ih =>
    intro A g he
    obtain ⟨B, h1, h2, h3⟩ := sx_as_go g (he e List.mem_cons_self)
    obtain ⟨C, k1, k2, k3⟩ := ih h3 (fun f hf β' ha => he f (List.mem_cons_of_mem _ hf) β' (by rw [← h2]; exact ha))
    refine ⟨C, ?_, k2.trans h2, k3⟩
    unfold sx_ass
    rw [h1]
    exact k1
/-- the sign of e is one, whatever the later symbols are -/
def sx_sg (A : sx_S) (β : Nat → Int) (e : sx_E) : Prop := (∀ β', sx_ag (sx_nx A) β β' → sx_ev β' e < 0) ∨ (∀ β', sx_ag (sx_nx A) β β' → 0 ≤ sx_ev β' e)
theorem sx_sg.of {e : sx_E} {x : Int} (hx : ∀ β', sx_ag (sx_nx A) β β' → x = sx_ev β' e) : sx_sg A β e := by
  by_cases h0 : x < 0
  · exact Or.inl (fun β' ha => by have := hx β' ha; omega)
  · exact Or.inr (fun β' ha => by have := hx β' ha; omega)
theorem sx_cd_ok {c : ClassFile.Cond} {e : sx_E} (g : sx_ok SP z L xs A β lv st h) (hd : sx_sg A β e) (hc : ∀ β', sx_ag (sx_nx A) β β' → ab_ci c (sx_ev β' e) 0) : ∃ B ∈ sx_cd c e A, sx_nx B = sx_nx A ∧ sx_ok SP z L xs B β lv st h := by
  have one : ∀ {f : sx_E}, (∀ β', sx_ag (sx_nx A) β β' → sx_ev β' f ≤ 0) → ∃ B ∈ sx_ls (sx_as A f), sx_nx B = sx_nx A ∧ sx_ok SP z L xs B β lv st h := fun hf => by
    obtain ⟨B, h1, h2, h3⟩ := sx_as_go g hf
    rw [h1]
    exact ⟨B, List.mem_singleton.mpr rfl, h2, h3⟩
  have p1 : (∀ β', sx_ag (sx_nx A) β β' → sx_ev β' e < 0) → ∃ B ∈ sx_ls (sx_as A (sx_ak e 1)), sx_nx B = sx_nx A ∧ sx_ok SP z L xs B β lv st h := fun k => one (fun β' ha => by
    have := k β' ha
    rw [sx_ev_ak]; omega)
  have p2 : (∀ β', sx_ag (sx_nx A) β β' → 0 < sx_ev β' e) → ∃ B ∈ sx_ls (sx_as A (sx_ak (sx_neg e) 1)), sx_nx B = sx_nx A ∧ sx_ok SP z L xs B β lv st h := fun k => one (fun β' ha => by
    have := k β' ha
    rw [sx_ev_ak, sx_ev_neg]; omega)
  cases c with
  | eq =>
    obtain ⟨B, h1, h2, h3⟩ := sx_ass_go (es := [e, sx_neg e]) g (fun f hf β' ha => by
      have k : sx_ev β' e = 0 := hc β' ha
      rcases List.mem_cons.mp hf with rfl | hf
      · omega
      · rw [List.mem_singleton] at hf
        subst hf
        rw [sx_ev_neg]; omega)
    refine ⟨B, ?_, h2, h3⟩
    show B ∈ sx_ls (sx_ass [e, sx_neg e] A)
    rw [h1]
    exact List.mem_singleton.mpr rfl
  | lt => exact p1 (fun β' ha => hc β' ha)
  | le => exact one (fun β' ha => hc β' ha)
  | gt => exact p2 (fun β' ha => hc β' ha)
  | ge => exact one (fun β' ha => by
      have k : 0 ≤ sx_ev β' e := hc β' ha
      rw [sx_ev_neg]; omega)
  | ne =>
    unfold sx_cd
    dsimp only
    split
    · rename_i u v hu hv
      split
      · refine p2 (fun β' ha => ?_)
        have k : ¬ sx_ev β' e = 0 := hc β' ha
        have := sx_lo_ok (g β' ha).nf hu
        omega
      · split
        · refine p1 (fun β' ha => ?_)
          have k : ¬ sx_ev β' e = 0 := hc β' ha
          have := sx_up_ok (g β' ha).nf hv
          omega
        · split
          · rcases hd with hd | hd
            · obtain ⟨B, k1, k2⟩ := p1 hd
              exact ⟨B, List.mem_append_left _ k1, k2⟩
            · obtain ⟨B, k1, k2⟩ := p2 (fun β' ha => by
                have k : ¬ sx_ev β' e = 0 := hc β' ha
                have := hd β' ha
                omega)
              exact ⟨B, List.mem_append_right _ k1, k2⟩
          · exact ⟨A, List.mem_singleton.mpr rfl, rfl, g⟩
    · exact ⟨A, List.mem_singleton.mpr rfl, rfl, g⟩
theorem sx_ci_ng {c : ClassFile.Cond} {x : Int} (hc : ¬ ab_ci c x 0) : ab_ci (sx_ng c) x 0 := by
  cases c <;> simp only [ab_ci, sx_ng] at hc ⊢ <;> omega
theorem sx_jn_of {a b : sx_R} (hs : sx_jn a b = some l) : ∃ x y, a = some x ∧ b = some y ∧ l = x ++ y := by
  unfold sx_jn at hs
  split at hs
  · rename_i x y
    cases hs
    exact ⟨x, y, rfl, rfl, rfl⟩
  · cases hs
theorem sx_to1_of {off : Int} {bs : List sx_S} (hs : sx_to1 pc off bs = some l) : 0 ≤ (pc : Int) + off ∧ l = bs.map (fun A => (((pc : Int) + off).toNat, A)) := by
  unfold sx_to1 at hs
  split at hs
  · rename_i h0
    cases hs
    exact ⟨h0, rfl⟩
  · cases hs
/-- one side of a branch -/
theorem sx_side {c : ClassFile.Cond} {off : Int} {e : sx_E} {r : Option ab_S} {x : List (Nat × sx_S)} (g : sx_ok SP z L xs A β lv st h) (hd : sx_sg A β e) (hs : sx_to1 pc off (sx_cd c e A) = some x) (hc : ∀ β', sx_ag (sx_nx A) β β' → ab_ci c (sx_ev β' e) 0) (hsub : ∀ q ∈ x, q ∈ l) (hr : 0 ≤ (pc : Int) + off → r = some (((pc : Int) + off).toNat, lv, st, h)) : sx_to SP z L xs Mo (sx_nx A) β h l r := by
  obtain ⟨h0, rfl⟩ := sx_to1_of hs
  obtain ⟨B, h1, h2, h3⟩ := sx_cd_ok g hd hc
  exact ⟨_, lv, st, h, B, β, hr h0, hsub _ (List.mem_map.mpr ⟨B, h1, rfl⟩), by omega, sx_ag.rf, h3, sx_fr.rf⟩
/-- the same truth for all later symbols: it is the run's -/
theorem sx_br_ok {c : ClassFile.Cond} {off : Int} {e : sx_E} {t : Bool} {r : Option ab_S} (g : sx_ok SP z L xs A β lv st h) (hd : sx_sg A β e) (ht : ∀ β', sx_ag (sx_nx A) β β' → (t = true ↔ ab_ci c (sx_ev β' e) 0)) (hs : sx_br c off pc e A = some l) (h1 : t = true → 0 ≤ (pc : Int) + off → r = some (((pc : Int) + off).toNat, lv, st, h)) (h2 : ¬ t = true → r = some (pc + 3, lv, st, h)) : sx_to SP z L xs Mo (sx_nx A) β h l r := by
  unfold sx_br at hs
  obtain ⟨x, y, k1, k2, rfl⟩ := sx_jn_of hs
  by_cases hc : t = true
  · exact sx_side g hd k1 (fun β' ha => (ht β' ha).mp hc) (fun q hq => List.mem_append_left _ hq) (h1 hc)
  · refine sx_side g hd k2 (fun β' ha => sx_ci_ng (fun q => hc ((ht β' ha).mpr q))) (fun q hq => List.mem_append_right _ hq) (fun _ => ?_)
    rw [h2 hc]
    congr 2
theorem sx_z_if {c : ClassFile.Cond} {off : Int} (g : sx_ok SP z L xs A β lv st h) (hs : sx_if c off pc A = some l) : sx_to SP z L xs Mo (sx_nx A) β h l (ab_if c off pc lv st h) := by
  unfold sx_if at hs
  split at hs
  · rename_i e r hst
    obtain ⟨b, q, rfl, hb, h1⟩ := sx_pi (g.sts hst)
    refine sx_br_ok (A := sx_k r A) (t := ab_cd c b 0) (g.stk h1) (sx_sg.of hb) (fun β' ha => ?_) hs (fun k hp => ?_) (fun k => ?_)
    · rw [ab_cd_i, ← hb β' ha]
      exact Iff.rfl
    · show (if ab_cd c b 0 = true then ab_jp pc off lv q h else _) = _
      rw [if_pos k]
      exact if_pos hp
    · show (if ab_cd c b 0 = true then ab_jp pc off lv q h else _) = _
      rw [if_neg k]
  · rename_i e r hst
    obtain ⟨b, q, rfl, hb, h1⟩ := sx_pc2 (g.sts hst)
    have hd : sx_sg (sx_k r A) β e := by
      by_cases h0 : b.toInt < 0
      · exact Or.inl (fun β' ha => (hb β' ha .lt).mp h0)
      · exact Or.inr (fun β' ha => (hb β' ha .ge).mp (Int.not_lt.mp h0))
    refine sx_br_ok (A := sx_k r A) (t := ab_cd c b 0) (g.stk h1) hd (fun β' ha => ?_) hs (fun k hp => ?_) (fun k => ?_)
    · rw [ab_cd_i]
      exact hb β' ha c
    · show (if ab_cd c b 0 = true then ab_jp pc off lv q h else _) = _
      rw [if_pos k]
      exact if_pos hp
    · show (if ab_cd c b 0 = true then ab_jp pc off lv q h else _) = _
      rw [if_neg k]
  · cases hs
theorem sx_ci_sub {c : ClassFile.Cond} {x y : Int} : ab_ci c x y ↔ ab_ci c (x - y) 0 := by
  cases c <;> simp only [ab_ci] <;> omega
theorem sx_z_ic {c : ClassFile.Cond} {off : Int} (g : sx_ok SP z L xs A β lv st h) (hs : sx_ic c off pc A = some l) : sx_to SP z L xs Mo (sx_nx A) β h l (ab_ic c off pc lv st h) := by
  unfold sx_ic at hs
  split at hs
  · rename_i y x r hst
    obtain ⟨b, q1, rfl, hb, h1⟩ := sx_pi (g.sts hst)
    obtain ⟨a, q, rfl, ha, h2⟩ := sx_pi h1
    refine sx_br_ok (A := sx_k r A) (t := ab_cd c a b) (g.stk h2) (sx_sg.of (x := a.toInt - b.toInt) (fun β' hag => by rw [sx_ev_sub, ← ha β' hag, ← hb β' hag])) (fun β' hag => ?_) hs (fun k hp => ?_) (fun k => ?_)
    · rw [ab_cd_i, sx_ev_sub, ← ha β' hag, ← hb β' hag]
      exact sx_ci_sub
    · show (if ab_cd c a b = true then ab_jp pc off lv q h else _) = _
      rw [if_pos k]
      exact if_pos hp
    · show (if ab_cd c a b = true then ab_jp pc off lv q h else _) = _
      rw [if_neg k]
  · cases hs
theorem sx_z_goto {off : Int} (g : sx_ok SP z L xs A β lv st h) (hs : sx_to1 pc off [A] = some l) : sx_to SP z L xs Mo (sx_nx A) β h l (ab_jp pc off lv st h) := by
  obtain ⟨h0, rfl⟩ := sx_to1_of hs
  exact sx_to.one (if_pos h0) rfl rfl g
theorem sx_tsl_ok {lo : Int} {e : sx_E} {x : Int} {r : Option ab_S} (g : sx_ok SP z L xs A β lv st h) (hx : ∀ β', sx_ag (sx_nx A) β β' → x = sx_ev β' e) : ∀ {offs : List Int} {j k : Nat} {off : Int} {y : List (Nat × sx_S)}, sx_tsl lo pc e A offs j = some y → offs[k]? = some off → x = lo + (j + k : Nat) → (∀ q ∈ y, q ∈ l) → (0 ≤ (pc : Int) + off → r = some (((pc : Int) + off).toNat, lv, st, h)) → sx_to SP z L xs Mo (sx_nx A) β h l r := by
  intro offs
  induction offs with
  | nil => intro j k off y _ hk; cases hk
  | cons o os ih =>
    intro j k off y hs hk hxe hsub hr
    unfold sx_tsl at hs
    obtain ⟨a, b, k1, k2, rfl⟩ := sx_jn_of hs
    cases k with
    | zero =>
      cases hk
      refine sx_side g (sx_sg.of (x := x - (lo + j)) (fun β' ha => by rw [sx_ev_ak, ← hx β' ha]; omega)) k1 (fun β' ha => ?_) (fun q hq => hsub q (List.mem_append_left _ hq)) hr
      show sx_ev β' (sx_ak e _) = 0
      rw [sx_ev_ak, ← hx β' ha]
      omega
    | succ k => exact ih k2 hk (by omega) (fun q hq => hsub q (List.mem_append_right _ hq)) hr
theorem sx_z_tsw {d lo hi : Int} {offs : Array Int} (g : sx_ok SP z L xs A β lv st h) (hs : sx_tsw d lo hi offs pc A = some l) : sx_to SP z L xs Mo (sx_nx A) β h l (ab_tsw d lo hi offs pc lv st h) := by
  unfold sx_tsw at hs
  split at hs
  · rename_i e r hst
    split at hs
    · rename_i hsz
      obtain ⟨b, q, rfl, hb, h1⟩ := sx_pi (g.sts hst)
      obtain ⟨x, y, k1, k2, rfl⟩ := sx_jn_of hs
      obtain ⟨y1, y2, k3, k4, rfl⟩ := sx_jn_of k2
      have gg := g.stk h1
      by_cases c1 : b.toInt < lo
      · refine sx_side (A := sx_k r A) gg (sx_sg.of (x := b.toInt - lo) (fun β' ha => by rw [sx_ev_ak, ← hb β' ha]; omega)) k3 (fun β' ha => ?_) (fun q hq => List.mem_append_right _ (List.mem_append_left _ hq)) (fun h0 => ?_)
        · show sx_ev β' (sx_ak e _) < 0
          rw [sx_ev_ak, ← hb β' ha]
          omega
        · show (if b.toInt < lo ∨ hi < b.toInt then ab_jp pc d lv q h else _) = _
          rw [if_pos (Or.inl c1)]
          exact if_pos h0
      · by_cases c2 : hi < b.toInt
        · refine sx_side (A := sx_k r A) gg (sx_sg.of (x := b.toInt - hi) (fun β' ha => by rw [sx_ev_ak, ← hb β' ha]; omega)) k4 (fun β' ha => ?_) (fun q hq => List.mem_append_right _ (List.mem_append_right _ hq)) (fun h0 => ?_)
          · show 0 < sx_ev β' (sx_ak e _)
            rw [sx_ev_ak, ← hb β' ha]
            omega
          · show (if b.toInt < lo ∨ hi < b.toInt then ab_jp pc d lv q h else _) = _
            rw [if_pos (Or.inr c2)]
            exact if_pos h0
        · have hlt : (b.toInt - lo).toNat < offs.toList.length := by
            rw [Array.length_toList]
            omega
          have hget : offs.toList[(b.toInt - lo).toNat]? = some (offs.toList[(b.toInt - lo).toNat]) := List.getElem?_eq_getElem hlt
          have hget2 : offs[(b.toInt - lo).toNat]? = some (offs.toList[(b.toInt - lo).toNat]) := by
            rw [← hget, Array.getElem?_toList]
          refine sx_tsl_ok (A := sx_k r A) (j := 0) gg (fun β' ha => hb β' ha) k1 hget (by omega) (fun q hq => List.mem_append_left _ hq) (fun h0 => ?_)
          show (if b.toInt < lo ∨ hi < b.toInt then ab_jp pc d lv q h else (match offs[(b.toInt - lo).toNat]? with
            | some off => ab_jp pc off lv q h
            | none => none)) = _
          rw [if_neg (by omega), hget2]
          exact if_pos h0
    · cases hs
  · cases hs
theorem sx_z_dup (g : sx_ok SP z L xs A β lv st h) (hs : sx_dup pc A = some l) : sx_to SP z L xs Mo (sx_nx A) β h l (ab_dup pc lv st h) := by
  unfold sx_dup at hs
  split at hs
  · rename_i v r hst
    split at hs
    · rename_i hk
      cases hs
      obtain ⟨w, q, rfl, hv, h1⟩ := sx_pv (g.sts hst)
      exact sx_to.one (if_pos (sx_cat1 (hv β sx_ag.rf) hk)) rfl rfl (g.stk (fun β' ha => ⟨hv β' ha, hv β' ha, h1 β' ha⟩))
    · cases hs
  · cases hs
theorem sx_z_pop (g : sx_ok SP z L xs A β lv st h) (hs : sx_pop pc A = some l) : sx_to SP z L xs Mo (sx_nx A) β h l (ab_pop pc lv st h) := by
  unfold sx_pop at hs
  split at hs
  · rename_i v r hst
    split at hs
    · rename_i hk
      cases hs
      obtain ⟨w, q, rfl, hv, h1⟩ := sx_pv (g.sts hst)
      exact sx_to.one (if_pos (sx_cat1 (hv β sx_ag.rf) hk)) rfl rfl (g.stk h1)
    · cases hs
  · cases hs
theorem sx_z_dx1 (g : sx_ok SP z L xs A β lv st h) (hs : sx_dx1 pc A = some l) : sx_to SP z L xs Mo (sx_nx A) β h l (ab_dx1 pc lv st h) := by
  unfold sx_dx1 at hs
  split at hs
  · rename_i v u r hst
    split at hs
    · rename_i hk
      cases hs
      obtain ⟨w, q1, rfl, hv, h1⟩ := sx_pv (g.sts hst)
      obtain ⟨w2, q, rfl, hv2, h2⟩ := sx_pv h1
      exact sx_to.one (if_pos ⟨sx_cat1 (hv β sx_ag.rf) hk.1, sx_cat1 (hv2 β sx_ag.rf) hk.2⟩) rfl rfl (g.stk (fun β' ha => ⟨hv β' ha, hv2 β' ha, hv β' ha, h2 β' ha⟩))
    · cases hs
  · cases hs
theorem sx_z_d2 (g : sx_ok SP z L xs A β lv st h) (hs : sx_d2 pc A = some l) : sx_to SP z L xs Mo (sx_nx A) β h l (ab_d2 pc lv st h) := by
  unfold sx_d2 at hs
  split at hs
  · rename_i v u r hst
    split at hs
    · rename_i hk
      cases hs
      obtain ⟨w, q1, rfl, hv, h1⟩ := sx_pv (g.sts hst)
      obtain ⟨w2, q, rfl, hv2, h2⟩ := sx_pv h1
      exact sx_to.one (if_pos ⟨sx_cat1 (hv β sx_ag.rf) hk.1, sx_cat1 (hv2 β sx_ag.rf) hk.2⟩) rfl rfl (g.stk (fun β' ha => ⟨hv β' ha, hv2 β' ha, hv β' ha, hv2 β' ha, h2 β' ha⟩))
    · cases hs
  · cases hs
theorem sx_z_il (g : sx_ok SP z L xs A β lv st h) (hs : sx_il pc A = some l) : sx_to SP z L xs Mo (sx_nx A) β h l (ab_il pc lv st h) := by
  unfold sx_il at hs
  split at hs
  · rename_i e r hst
    cases hs
    obtain ⟨b, q, rfl, hb, h1⟩ := sx_pi (g.sts hst)
    refine sx_to.one rfl rfl rfl ((g.stk h1).pu (fun β' ha => ?_))
    show b.toInt64.toInt = sx_ev β' e
    rw [Int32.toInt_toInt64]
    exact hb β' ha
  · cases hs
theorem sx_z_li (g : sx_ok SP z L xs A β lv st h) (hs : sx_lin pc A = some l) : sx_to SP z L xs Mo (sx_nx A) β h l (ab_li pc lv st h) := by
  unfold sx_lin at hs
  split at hs
  · rename_i e r hst
    obtain ⟨b, q, rfl, hb, h1⟩ := sx_pl (g.sts hst)
    refine sx_t1.to (A := sx_k r A) (sx_li_ok (sx_vi b.toInt32) (fun β' ha h2 h3 => ?_) (g.stk h1) hs) rfl
    rw [sx_m0.1] at h2
    rw [sx_m0.2] at h3
    rw [Int64.toInt_toInt32, hb β' ha, sx_bm h2 h3]
  · cases hs
theorem sx_z_ls {f : Int64 → Int32 → Int64} (g : sx_ok SP z L xs A β lv st h) (hs : sx_lsh pc A = some l) : sx_to SP z L xs Mo (sx_nx A) β h l (ab_ls f pc lv st h) := by
  unfold sx_lsh at hs
  split at hs
  · rename_i y x r hst
    obtain ⟨b, q1, rfl, hb, h1⟩ := sx_pi (g.sts hst)
    obtain ⟨a, q, rfl, ha, h2⟩ := sx_pl h1
    exact sx_t1.to (A := sx_k r A) (sx_full_ok (sx_vl (f a b)) (g.stk h2) hs) rfl
  · cases hs
theorem sx_z_lc (g : sx_ok SP z L xs A β lv st h) (hs : sx_lc pc A = some l) : sx_to SP z L xs Mo (sx_nx A) β h l (ab_lc pc lv st h) := by
  unfold sx_lc at hs
  split at hs
  · rename_i y x r hst
    cases hs
    obtain ⟨b, q1, rfl, hb, h1⟩ := sx_pl (g.sts hst)
    obtain ⟨a, q, rfl, ha, h2⟩ := sx_pl h1
    refine sx_to.one rfl rfl rfl ((g.stk h2).pu (fun β' hag => ?_))
    show ∀ c : ClassFile.Cond, ab_ci c (lg_cmp a b).toInt 0 ↔ ab_ci c (sx_ev β' (sx_sub x y)) 0
    intro c
    rw [sx_ev_sub, ← ha β' hag, ← hb β' hag, ← sx_ci_sub, ← ab_cd_l, ab_cd_i]
    exact Iff.rfl
  · cases hs
theorem sx_z_gs {k : Nat} (g : sx_ok SP z L xs A β lv st h) (hs : sx_gs k pc A = some l) : sx_to SP z L xs Mo (sx_nx A) β h l (ab_gs k pc lv st h) := by
  unfold sx_gs at hs
  split at hs
  · cases hs; exact sx_to.one rfl rfl rfl (g.pu (fun β' _ => rfl))
  · cases hs; exact sx_to.one rfl rfl rfl (g.pu (fun β' _ => by show (1 : Int32).toInt = _; rw [sx_ev_K]; rfl))
  · cases hs; exact sx_to.one rfl rfl rfl (g.pu (fun β' _ => rfl))
  · cases hs
theorem sx_z_gx {f : Nat} (g : sx_ok SP z L xs A β lv st h) (hs : sx_gx f pc A = some l) : sx_to SP z L xs Mo (sx_nx A) β h l (ab_gx f pc lv st h) := by
  unfold sx_gx at hs
  split at hs
  · rename_i k r hst
    split at hs
    · rename_i hk
      obtain ⟨q, rfl, h1⟩ := sx_px (g.sts hst)
      split at hs
      · rename_i hf
        cases hs
        refine sx_to.one (st' := .retAddr (k + 10) :: q) ?_ rfl rfl (g.stk (fun β' ha => ⟨rfl, h1 β' ha⟩))
        unfold ab_gx
        dsimp only
        rw [if_pos hk, if_pos hf]
      · rename_i hf
        cases hs
        refine sx_to.one (st' := .int 0 :: q) ?_ rfl rfl (g.stk (fun β' ha => ⟨by show (0 : Int32).toInt = _; rw [sx_ev_K]; rfl, h1 β' ha⟩))
        unfold ab_gx
        dsimp only
        rw [if_pos hk, if_neg hf]
    · cases hs
  · cases hs
end SX8
