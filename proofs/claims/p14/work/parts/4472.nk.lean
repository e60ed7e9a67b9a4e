/-! ===== layAims, layMakes, cubeAt over the words ===== -/
def nk_mo : List Nat := [10545, 10553, 10554, 13309, 13311, 13439, 13565, 13567, 13695, 13821, 13823, 13949, 13951, 14077, 14079]
def nk_l : List Nat := [82, 103, 104, 105, 106, 107, 108, 109]
section NK
variable {z L : Nat} {xs : Nat → Int32} {h h' : ab_H} {ws0 ws : List Value} {co : Nat → Int64} {cl cu : Nat → Int32}
theorem nk_in {a : Nat} (h1 : 103 ≤ a) (h2 : a ≤ 109) : a ∈ nk_l := by
  have q : a = 103 ∨ a = 104 ∨ a = 105 ∨ a = 106 ∨ a = 107 ∨ a = 108 ∨ a = 109 := by omega
  rcases q with rfl | rfl | rfl | rfl | rfl | rfl | rfl <;> decide
theorem nk_back (hh : sx_h sx_SP z L xs h) (r0 : ab_rd h 82 = some (.inr (10, ws0))) (hF : lk_F h h') (hw : lk_W ws0 ws) {n : Nat} (hn : n ≤ 729) (h49 : ws[49]? = some (.int (Int32.ofNat n))) {x57 x58 : Int32} (h57 : ws[57]? = some (.int x57)) (h58 : ws[58]? = some (.int x58)) (m : lm_S h' ws co cl) (hcl : ∀ k, k < 729 → 0 ≤ (cl k).toInt ∧ (cl k).toInt ≤ 6) (h103 : ab_rd h' 103 = some (.inl (0, 729, .inl cu))) : sx_h sx_SP z L xs h' ∧ sx_fr nk_mo h h' := by
  obtain ⟨cv, pt, tr, ll, m, hT⟩ := m
  obtain ⟨m82, m104, m105, m106, m107, m108, m109⟩ := m
  have hF0 := nw_of hh r0
  obtain ⟨e1, e2, e3⟩ := hF
  have hE : ∀ a, a ∉ nk_l → h'.2.2 a = h.2.2 a := fun a ha => e3 a (fun q => ha (by rw [q]; decide)) (by
    by_cases q1 : a < 103
    · exact Or.inl q1
    · by_cases q2 : 109 < a
      · exact Or.inr q2
      · exact absurd (nk_in (by omega) (by omega)) ha)
  constructor
  · refine nw_back hh nk_l e1 e2 (by decide) hE (fun a ha c hc => ?_)
    rcases List.mem_cons.mp ha with rfl | ha
    · rw [nw_c82] at hc
      cases hc
      rw [(ab_rd_of m82).2]
      refine ⟨rfl, hF0.1.trans hw.1.symm, fun k f w hf hwk => ?_⟩
      by_cases k49 : k = 49
      · subst k49
        have e : f = (0, 0, 729, []) := Option.some.inj (hf.symm.trans rfl)
        subst e
        rw [h49] at hwk
        cases hwk
        refine ⟨_, rfl, ?_, ?_⟩
        · rw [mk_i (by omega)]
          show (0 : Int) ≤ n
          omega
        · rw [mk_i (by omega)]
          show (n : Int) ≤ 729
          omega
      by_cases k57 : k = 57
      · subst k57
        have e : f = (0, (-2147483648), 2147483647, []) := Option.some.inj (hf.symm.trans rfl)
        subst e
        rw [h57] at hwk
        cases hwk
        exact ⟨_, rfl, nw_pc (nw_32 _)⟩
      by_cases k58 : k = 58
      · subst k58
        have e : f = (0, (-2147483648), 2147483647, []) := Option.some.inj (hf.symm.trans rfl)
        subst e
        rw [h58] at hwk
        cases hwk
        exact ⟨_, rfl, nw_pc (nw_32 _)⟩
      exact hF0.2 k f w hf ((hw.2 k k49 k57 k58).symm.trans hwk)
    rcases List.mem_cons.mp ha with rfl | ha
    · rw [show sx_cel sx_SP 103 = some (.inl (0, 729, [((-2147483648), 2147483647)], [])) from rfl] at hc
      cases hc
      rw [(ab_rd_of h103).2]
      exact ⟨rfl, rfl, Or.inl rfl, fun j _ => nw_32 _⟩
    rcases List.mem_cons.mp ha with rfl | ha
    · rw [show sx_cel sx_SP 104 = some (.inl (2, 729, [], [])) from rfl] at hc
      cases hc
      rw [(ab_rd_of m104).2]
      exact ⟨rfl, rfl, rfl⟩
    rcases List.mem_cons.mp ha with rfl | ha
    · rw [show sx_cel sx_SP 105 = some (.inl (0, 729, [(0, 6)], [])) from rfl] at hc
      cases hc
      rw [(ab_rd_of m105).2]
      exact ⟨rfl, rfl, Or.inl rfl, fun j hj => nw_cp (hcl j hj)⟩
    rcases List.mem_cons.mp ha with rfl | ha
    · rw [show sx_cel sx_SP 106 = some (.inl (2, 70, [], [])) from rfl] at hc
      cases hc
      rw [(ab_rd_of m106).2]
      exact ⟨rfl, rfl, rfl⟩
    rcases List.mem_cons.mp ha with rfl | ha
    · rw [show sx_cel sx_SP 107 = some (.inl (0, 70, [((-2147483648), 2147483647)], [])) from rfl] at hc
      cases hc
      rw [(ab_rd_of m107).2]
      exact ⟨rfl, rfl, Or.inl rfl, fun j _ => nw_32 _⟩
    rcases List.mem_cons.mp ha with rfl | ha
    · rw [show sx_cel sx_SP 108 = some (.inl (0, 70, [(0, 729)], [])) from rfl] at hc
      cases hc
      rw [(ab_rd_of m108).2]
      exact ⟨rfl, rfl, Or.inl rfl, fun j hj => nw_cp (hT j hj)⟩
    rcases List.mem_cons.mp ha with rfl | ha
    · rw [show sx_cel sx_SP 109 = some (.inl (0, 70, [((-2147483648), 2147483647)], [])) from rfl] at hc
      cases hc
      rw [(ab_rd_of m109).2]
      exact ⟨rfl, rfl, Or.inl rfl, fun j _ => nw_32 _⟩
    cases ha
  · refine nw_fr e1 (fun a => ?_)
    by_cases ha : a ∈ nk_l
    · refine Or.inr ?_
      rcases List.mem_cons.mp ha with rfl | ha
      · exact Or.inl ⟨10, ws0, ws, (ab_rd_of r0).2, (ab_rd_of m82).2, fun k hk => hw.2 k (fun q => by rw [q] at hk; exact absurd hk (by decide)) (fun q => by rw [q] at hk; exact absurd hk (by decide)) (fun q => by rw [q] at hk; exact absurd hk (by decide))⟩
      rcases List.mem_cons.mp ha with rfl | ha
      · obtain ⟨f, rf, -⟩ := nw_a (a := 103) (t := 0) (m := 729) rfl (by decide) (by decide) hh
        exact Or.inr (Or.inl ⟨0, 729, f, cu, (ab_rd_of rf).2, (ab_rd_of h103).2, by decide, by decide⟩)
      rcases List.mem_cons.mp ha with rfl | ha
      · obtain ⟨f, rf⟩ := nw_l (a := 104) (m := 729) rfl hh
        exact Or.inr (Or.inr ⟨2, 729, f, co, (ab_rd_of rf).2, (ab_rd_of m104).2, by decide⟩)
      rcases List.mem_cons.mp ha with rfl | ha
      · obtain ⟨f, rf, -⟩ := nw_a (a := 105) (t := 0) (m := 729) rfl (by decide) (by decide) hh
        exact Or.inr (Or.inl ⟨0, 729, f, cl, (ab_rd_of rf).2, (ab_rd_of m105).2, by decide, by decide⟩)
      rcases List.mem_cons.mp ha with rfl | ha
      · obtain ⟨f, rf⟩ := nw_l (a := 106) (m := 70) rfl hh
        exact Or.inr (Or.inr ⟨2, 70, f, cv, (ab_rd_of rf).2, (ab_rd_of m106).2, by decide⟩)
      rcases List.mem_cons.mp ha with rfl | ha
      · obtain ⟨f, rf, -⟩ := nw_a (a := 107) (t := 0) (m := 70) rfl (by decide) (by decide) hh
        exact Or.inr (Or.inl ⟨0, 70, f, pt, (ab_rd_of rf).2, (ab_rd_of m107).2, by decide, by decide⟩)
      rcases List.mem_cons.mp ha with rfl | ha
      · obtain ⟨f, rf, -⟩ := nw_a (a := 108) (t := 0) (m := 70) rfl (by decide) (by decide) hh
        exact Or.inr (Or.inl ⟨0, 70, f, tr, (ab_rd_of rf).2, (ab_rd_of m108).2, by decide, by decide⟩)
      rcases List.mem_cons.mp ha with rfl | ha
      · obtain ⟨f, rf, -⟩ := nw_a (a := 109) (t := 0) (m := 70) rfl (by decide) (by decide) hh
        exact Or.inr (Or.inl ⟨0, 70, f, ll, (ab_rd_of rf).2, (ab_rd_of m109).2, by decide, by decide⟩)
      cases ha
    · exact Or.inl (hE a ha)
/-- what the search reads: fixed while the cubes are laid -/
def ns (h : ab_H) (wi nx lvs ow : Nat → Int32) (EV ST W : Nat) : Prop := ∃ ws, am_M h ws wi nx lvs ∧ ab_rd h 84 = some (.inl (0, 6, .inl ow)) ∧ am_Q ws EV ST ∧ ws[0]? = some (.int (Int32.ofNat W)) ∧ ws[2]? = some (.ref 84)
def nb (lvs : Nat → Int32) (EV ST W : Nat) : Prop := EV ≤ 16 ∧ ST ≤ 200 ∧ W ≤ 6 ∧ ll_G W ST lvs ∧ ∀ s, s < 200 → 0 ≤ (lvs s).toInt ∧ (lvs s).toInt ≤ 63
theorem ns_of (hh : sx_h sx_SP z L xs h) (hL : nr_L h) : ∃ wi nx lvs ow EV ST W, ns h wi nx lvs ow EV ST W ∧ nb lvs EV ST W := by
  obtain ⟨ws, lvs, W, ST, r1, rlv, eW, eS, hG, bW, bS⟩ := hL
  have hF := nw_of hh r1
  obtain ⟨EV, eE, bE⟩ := hF.n (k := 3) (b := 16) (l := []) rfl
  obtain ⟨wi, rwi, -⟩ := nw_a (a := 85) (t := 0) (m := 16) rfl (by decide) (by decide) hh
  obtain ⟨nx, rnx, -⟩ := nw_a (a := 100) (t := 0) (m := 3200) rfl (by decide) (by decide) hh
  obtain ⟨lv', rlv', hlv⟩ := nw_a (a := 101) (t := 0) (m := 200) rfl (by decide) (by decide) hh
  obtain ⟨ow, row, -⟩ := nw_a (a := 84) (t := 0) (m := 6) rfl (by decide) (by decide) hh
  rw [rlv] at rlv'
  cases rlv'
  exact ⟨wi, nx, lvs, ow, EV, ST, W, ⟨ws, ⟨r1, rwi, rnx, rlv⟩, row, ⟨eE, hF.r rfl, hF.r rfl, hF.r rfl, eS⟩, eW, hF.r rfl⟩, by omega, bS, bW, hG, fun s hs => nw_pc (hlv s hs)⟩
variable {wi nx lvs ow : Nat → Int32} {EV ST W : Nat}
theorem na_run (T : nr_T z L xs) (hh : sx_h sx_SP z L xs h) (g : ns h wi nx lvs ow EV ST W) (b : nb lvs EV ST W) {w : Int32} (hw : 0 ≤ w.toInt ∧ w.toInt ≤ 5) (d : Nat) : ab_go (d + 2) ab_M_X10_layAims 0 [(0, .ref 82), (1, .int w)] [] h (fun r h' => r = none ∧ sx_h sx_SP z L xs h' ∧ sx_fr kc_250.2.2.1 h h' ∧ ns h' wi nx lvs ow EV ST W ∧ ∃ (ws : List Value) (A B : Int64), ab_rd h' 82 = some (.inr (10, ws)) ∧ ws[47]? = some (.long A) ∧ ws[48]? = some (.long B) ∧ am_I wi nx lvs EV ST w A B) := by
  obtain ⟨ws0, m, r84, hq, eW, e2⟩ := g
  have hF0 := nw_of hh m.1
  refine (go_and (nw_use2 (nr_250 T) rfl rfl (show 2 ≤ d + 2 by omega) hh hw) (la_run hq (by rw [← hF0.1]; decide) b.1 b.2.1 b.2.2.2.2 m d w)).mono (fun r h' hp => ?_)
  obtain ⟨p1, rfl, ws, A, B, m', hW, hF, h47, h48, hI⟩ := hp
  obtain ⟨q1, q2⟩ := nw_h p1
  exact ⟨rfl, q1, q2, ⟨ws, m', lk_rd hF.1 (hF.2.2 84 (by decide)) r84, hW.q hq, (hW.2 0 (by decide) (by decide)).trans eW, (hW.2 2 (by decide) (by decide)).trans e2⟩, ws, A, B, m'.1, h47, h48, hI⟩
theorem nm_run (hh : sx_h sx_SP z L xs h) (g : ns h wi nx lvs ow EV ST W) (b : nb lvs EV ST W) {A B : Int64} (r0 : ab_rd h 82 = some (.inr (10, ws0))) (h47 : ws0[47]? = some (.long A)) (h48 : ws0[48]? = some (.long B)) (hon : ∀ l, l < 64 → mk_bt A l = true → l < 2 ^ W ∧ mk_bt B l = false) (d : Nat) : ab_go (d + 2) ab_M_X10_layMakes 0 [(0, .ref 82)] [] h (fun r h' => r = none ∧ sx_h sx_SP z L xs h' ∧ sx_fr nk_mo h h' ∧ ns h' wi nx lvs ow EV ST W ∧ lk_P h ws0 A h') := by
  obtain ⟨ws, m, r84, hq, eW, e2⟩ := g
  obtain rfl : ws = ws0 := by
    have e := m.1
    rw [r0] at e
    cases e
    rfl
  have hF0 := nw_of hh r0
  obtain ⟨cu, rcu, -⟩ := nw_a (a := 103) (t := 0) (m := 729) rfl (by decide) (by decide) hh
  obtain ⟨co, rco⟩ := nw_l (a := 104) (m := 729) rfl hh
  obtain ⟨cl, rcl, hcl⟩ := nw_a (a := 105) (t := 0) (m := 729) rfl (by decide) (by decide) hh
  obtain ⟨cv, rcv⟩ := nw_l (a := 106) (m := 70) rfl hh
  obtain ⟨pt, rpt, -⟩ := nw_a (a := 107) (t := 0) (m := 70) rfl (by decide) (by decide) hh
  obtain ⟨tr, rtr, htr⟩ := nw_a (a := 108) (t := 0) (m := 70) rfl (by decide) (by decide) hh
  obtain ⟨ll, rll, -⟩ := nw_a (a := 109) (t := 0) (m := 70) rfl (by decide) (by decide) hh
  have S : lk_S h ws := ⟨cu, co, cl, cv, pt, tr, ll, ⟨r0, rcu, rco, rcl⟩, ⟨r0, rco, rcl, rcv, rpt, rtr, rll⟩, fun i hi => nw_pc (htr i hi), fun k hk => nw_pc (hcl k hk)⟩
  refine (lk_run (off := B) ⟨eW, h47, h48, hF0.r rfl, hF0.r rfl, hF0.r rfl, by rw [← hF0.1]; decide⟩ ⟨hF0.r rfl, hF0.r rfl, hF0.r rfl, hF0.r rfl, by rw [← hF0.1]; decide⟩ b.2.2.1 hon S d).mono (fun r h' hp => ?_)
  obtain ⟨rfl, P⟩ := hp
  have P0 := P
  obtain ⟨ws', cu', co', cl', n, J, l, mS, hmw, hcl', h103, hW, hF, h57, h58, -⟩ := P
  obtain ⟨q1, q2⟩ := nk_back hh r0 hF hW hmw.1 hmw.2.2.1 h57 h58 mS hcl' h103
  have m82 : ab_rd h' 82 = some (.inr (10, ws')) := by
    obtain ⟨_, _, _, _, mm1, -⟩ := mS
    exact mm1.1
  have e : ∀ k, k ≠ 49 → k ≠ 57 → k ≠ 58 → ws'[k]? = ws[k]? := hW.2
  have c : ∀ a, a ≠ 82 → a < 103 → ∀ {e : ab_E}, ab_rd h a = some e → ab_rd h' a = some e := fun a a1 a2 _ hr => lk_rd hF.1 (hF.2.2 a a1 (Or.inl a2)) hr
  exact ⟨rfl, q1, q2, ⟨ws', ⟨m82, c 85 (by decide) (by decide) m.2.1, c 100 (by decide) (by decide) m.2.2.1, c 101 (by decide) (by decide) m.2.2.2⟩, c 84 (by decide) (by decide) r84, ⟨(e 3 (by decide) (by decide) (by decide)).trans hq.1, (e 4 (by decide) (by decide) (by decide)).trans hq.2.1, (e 35 (by decide) (by decide) (by decide)).trans hq.2.2.1, (e 36 (by decide) (by decide) (by decide)).trans hq.2.2.2.1, (e 32 (by decide) (by decide) (by decide)).trans hq.2.2.2.2⟩, (e 0 (by decide) (by decide) (by decide)).trans eW, (e 2 (by decide) (by decide) (by decide)).trans e2⟩, P0⟩
theorem nc_run {h0 : ab_H} {A : Int64} (hh : sx_h sx_SP z L xs h) (P : lk_P h0 ws0 A h) {J a : Nat} (hw : ab_rd h 82 = some (.inr (10, ws))) (h57 : ws[57]? = some (.int (Int32.ofNat J))) (hJ : J ≤ 64) (ha : a < J) (d : Nat) : ab_go (d + 2) ab_M_X10_cubeAt 0 [(0, .ref 82), (1, .int (Int32.ofNat a))] [] h (fun r h' => ∃ x : Int32, r = some (.int x) ∧ sx_h sx_SP z L xs h' ∧ sx_fr nk_mo h h') := by
  obtain ⟨ws', cu, co, cl, n, J', l, mS, hmw, hcl, h103, hW, hF, h57', h58, bJ, bl, hcan, hmin⟩ := P
  have m82 : ab_rd h 82 = some (.inr (10, ws')) := by
    obtain ⟨_, _, _, _, mm1, -⟩ := mS
    exact mm1.1
  rw [hw] at m82
  cases m82
  rw [h57'] at h57
  have eJ : Int32.ofNat J' = Int32.ofNat J := Value.int.inj (Option.some.inj h57)
  have eJ : J' = J := by
    have q := congrArg Int32.toInt eJ
    rw [mk_i (by omega), mk_i (by omega)] at q
    omega
  subst eJ
  have hF0 := nw_of hh hw
  refine (ca_run hmw (fun k hk => hcl k (by have := hmw.1; omega)) h103 (hF0.r rfl) h57' h58 bJ bl ha hcan hmin mS d).mono (fun r h' hp => ?_)
  obtain ⟨x, rfl, mS', hF'⟩ := hp
  obtain ⟨q1, q2⟩ := nk_back (ws0 := ws) (ws := ws) hh hw (⟨hF'.1, hF'.2.1, fun a a1 a2 => hF'.2.2 a (by omega)⟩ : lk_F h h') ⟨rfl, fun _ _ _ _ => rfl⟩ hmw.1 hmw.2.2.1 h57' h58 mS' hcl (lk_rd hF'.1 (hF'.2.2 103 (by decide)) h103)
  exact ⟨x, rfl, q1, q2⟩
end NK
