/-! ===== isGraph: the loops ===== -/
section IH
variable {z L : Nat} {xs : Nat → Int32} {d : Nat} {h0 : ab_H} {Q : Option Value → ab_H → Prop} {EV PL : Int32} {f t : Nat → Int32} {n : Nat}
theorem ig_102 (T : ig_T z L xs) (hd : 3 ≤ d) (hQ : ∀ β0 r h', sx_post sx_SP z L xs (ig_K ig_os) β0 h0 r h' → Q r h') {A P : Int32} {lv : ab_L} {h : ab_H} (i : ig_I z L xs lv h A P PL) (hA : 0 ≤ A.toInt ∧ A.toInt ≤ 1) (hP : 0 ≤ P.toInt ∧ P.toInt ≤ 20) (hl : 0 ≤ PL.toInt ∧ PL.toInt ≤ 20) (hfr : sx_fr ig_mo h0 h) : ab_go d ab_M_X10_isGraph 102 lv [] h Q := by
  have g : sx_at sx_SP z L xs ig_any (ig_b A.toInt P.toInt 0 PL.toInt) lv [] h := ig_in i trivial hA hP ⟨by decide, by decide⟩ hl (fun q hq => (by cases hq))
  refine (sx_run_ok (K := ig_K ig_os) (na := 0) (βa := ig_b A.toInt P.toInt 0 PL.toInt) (β0 := ig_b A.toInt P.toInt 0 PL.toInt) (ma := none) (an := ig_at) (h0 := h0) T hd ig_O1 (fun e he => by cases he) (fun b hb β2 lv2 st2 h2 g2 hag2 hfr2 _ => sx_place (K := ig_K ig_os) T hd ig_O1 ig_tp ig_tr hb g2 hag2 hfr2) 300 102 ig_any _ lv [] h ig_r102 (sx_wS_ok rfl g) sx_ag.rf (Nat.le_refl _) (Nat.zero_le _) (fun s hs => absurd hs (Nat.not_lt_zero _)) hfr).mono (hQ _)
theorem ig_ofn {P : Int32} (hp : 0 ≤ P.toInt) : P = Int32.ofNat P.toInt.toNat := by
  refine Int32.toInt_inj.mp ?_
  have := P.toInt_lt
  rw [Int32.toInt_ofNat_of_lt (by omega)]
  omega
theorem ig_nz {X : Int32} (h1 : X ≠ 0) (h2 : 0 ≤ X.toInt) : 1 ≤ X.toInt := by
  rcases Int.lt_or_eq_of_le h2 with q | q
  · omega
  · exact absurd (Int32.toInt_inj.mp q.symm) h1
theorem ig_nz2 {X : Int32} (h1 : 1 ≤ X.toInt) : X ≠ 0 := fun e => by
  rw [e] at h1
  exact absurd h1 (by decide)
theorem ig_60 (T : ig_T z L xs) (hd : 3 ≤ d) (g0 : ig_G h0 EV f t) (hn : n ≤ 16) (he : EV.toInt = n) (hl : 0 ≤ PL.toInt ∧ PL.toInt ≤ 20) (good : ∀ q : Nat, (q : Int) < PL.toInt → fe_v f (Int32.ofNat q) n ≠ 0 ∧ fe_v t (Int32.ofNat q) n ≠ 0) (hQ : ∀ β0 r h', sx_post sx_SP z L xs (ig_K ig_os) β0 h0 r h' → Q r h') :
    ∀ (k : Nat) (A P : Int32) (lv : ab_L) (h : ab_H), 20 - P.toInt ≤ k → 0 ≤ P.toInt → P.toInt ≤ 20 → A.toInt = 1 → ig_I z L xs lv h A P PL → sx_fr ig_mo h0 h → ab_go d ab_M_X10_isGraph 60 lv [] h Q := by
  intro k
  induction k with
  | zero =>
    intro A P lv h hk p1 p2 hA i hfr
    have g : sx_at sx_SP z L xs (ig_S (ig_l (sx_Y 1) (sx_Y 2)) [] (ig_N 1 1 20 (-2147483648) 2147483647) []) (ig_b A.toInt P.toInt 0 PL.toInt) lv [] h := ig_in i trivial ⟨by omega, by omega⟩ ⟨p1, p2⟩ ⟨by decide, by decide⟩ hl (fun q hq => (by cases hq))
    refine sx_seg (K := ig_K []) (β0 := ig_b A.toInt P.toInt 0 PL.toInt) (h0 := h0) T hd ig_O0 ig_Q0 (fun b hb β lv' st h' g' hag hfr' => ?_) 300 60 _ _ lv [] h ig_r60 (sx_wS_ok rfl g) sx_ag.rf (Nat.le_refl _) hfr
    rcases List.mem_cons.mp hb with rfl | hb
    · have h2 := g'.2.2.2.2.1 (2, 0, 19) (List.mem_cons_of_mem _ List.mem_cons_self)
      have h3 : β 2 = P.toInt := hag 2 (by decide)
      dsimp only at h2
      omega
    · rw [List.mem_singleton] at hb
      subst hb
      have hst := ig_st0 g'.2.1
      subst hst
      obtain ⟨A', P', i', a1, a2⟩ := ig_out rfl g' hag rfl rfl
      rw [ig_e1] at a1
      rw [ig_e2] at a2
      exact ig_102 T hd hQ i' ⟨by omega, by omega⟩ ⟨by omega, by omega⟩ hl hfr'
  | succ k ih =>
    intro A P lv h hk p1 p2 hA i hfr
    have g : sx_at sx_SP z L xs (ig_S (ig_l (sx_Y 1) (sx_Y 2)) [] (ig_N 1 1 20 (-2147483648) 2147483647) []) (ig_b A.toInt P.toInt 0 PL.toInt) lv [] h := ig_in i trivial ⟨by omega, by omega⟩ ⟨p1, p2⟩ ⟨by decide, by decide⟩ hl (fun q hq => (by cases hq))
    refine sx_seg (K := ig_K []) (β0 := ig_b A.toInt P.toInt 0 PL.toInt) (h0 := h0) T hd ig_O0 ig_Q0 (fun b hb β lv' st h' g' hag hfr' => ?_) 300 60 _ _ lv [] h ig_r60 (sx_wS_ok rfl g) sx_ag.rf (Nat.le_refl _) hfr
    rcases List.mem_cons.mp hb with rfl | hb
    · have h2 := g'.2.2.2.2.1 (2, 0, 19) (List.mem_cons_of_mem _ List.mem_cons_self)
      have h3 : β 2 = P.toInt := hag 2 (by decide)
      have h4 := g'.2.2.2.2.2.1 ig_lt List.mem_cons_self
      rw [sx_ev_ag hag (show sx_wE 5 ig_lt = true from rfl), ig_elt] at h4
      dsimp only at h2
      obtain ⟨A', P', i', a1, a2⟩ := ig_out rfl g' hag rfl rfl
      rw [ig_e1] at a1
      rw [ig_e2] at a2
      have eA : A' = A := Int32.toInt_inj.mp a1
      have eP : P' = P := Int32.toInt_inj.mp a2
      rw [eA, eP] at i'
      have g2 := g'.2.1
      have hstk : st = [.int P, .ref 82, .int P, .ref 111] := by
        have key : ∀ β', sx_ag 5 β β' → sx_st β' [.inl (0, sx_Y 2), .inr (1, 82), .inl (0, sx_Y 2), .inr (1, 111)] st := fun β' ha => (sx_st_ag ha rfl).mpr g2
        obtain ⟨x1, q1, rfl, y1, k1⟩ := sx_pi key
        obtain ⟨q2, rfl, k2⟩ := sx_pr k1
        obtain ⟨x3, q3, rfl, y3, k3⟩ := sx_pi k2
        obtain ⟨q4, rfl, k4⟩ := sx_pr k3
        have e4 := ig_st0 (k4 β sx_ag.rf)
        have e1 : x1 = P := Int32.toInt_inj.mp (by rw [y1 β sx_ag.rf, sx_ev_Y, h3])
        have e3 : x3 = P := Int32.toInt_inj.mp (by rw [y3 β sx_ag.rf, sx_ev_Y, h3])
        rw [e1, e3, e4]
      subst hstk
      have gg := ig_same g0 i'.2.2.2.2 hfr'
      obtain ⟨d', rfl⟩ : ∃ d', d = d' + 1 := ⟨d - 1, by omega⟩
      have hgood := good P.toInt.toNat (by omega)
      rw [← ig_ofn p1] at hgood
      have run := ig_fe (d := d') T hn he gg i'.2.2.2.2 (P := P) ⟨p1, by omega⟩
      have rng : 0 ≤ (fe_v f P n).toInt ∧ (fe_v f P n).toInt ≤ 65535 := by
        obtain ⟨_, _, _, _, _, _, r1, r2⟩ := run
        exact ⟨r1, r2⟩
      obtain ⟨⟨ws, w1, -, -, -⟩, -, -⟩ := gg
      refine ig_call (pc := 75) rfl rfl w1 (fun hx => ig_cal_fe (rest := [.int P, .ref 111]) (show 1 + (1 + 0) ≤ 8 by decide) hx) (run.mono (fun r h' q => ⟨q.1, q.2.1⟩)) ?_
      have g3 : sx_at sx_SP z L xs (ig_S (ig_l (sx_Y 1) (sx_Y 2)) [.inl (0, sx_Y 3), .inl (0, sx_Y 2), .inr (1, 111)] (ig_N 1 1 19 1 65535) [ig_lt]) (ig_b A.toInt P.toInt (fe_v f P n).toInt PL.toInt) lv' [.int (fe_v f P n), .int P, .ref 111] h' := ig_in i' ⟨(ig_e3 _ _ _ _).symm, (ig_e2 _ _ _ _).symm, rfl, trivial⟩ ⟨by omega, by omega⟩ ⟨p1, by omega⟩ ⟨ig_nz hgood.1 rng.1, rng.2⟩ hl (fun q hq => by
        rw [List.mem_singleton] at hq
        subst hq
        rw [ig_elt]
        omega)
      refine sx_seg (K := ig_K []) (β0 := ig_b A.toInt P.toInt (fe_v f P n).toInt PL.toInt) (h0 := h0) T hd ig_O0 ig_Q0 (fun b hb β lv2 st2 h2 g4 hag2 hfr2 => ?_) 300 78 _ _ lv' _ h' ig_r78 (sx_wS_ok rfl g3) sx_ag.rf (Nat.le_refl _) hfr'
      rw [List.mem_singleton] at hb
      subst hb
      have m3 : β 2 = P.toInt := hag2 2 (by decide)
      obtain ⟨A2, P2, i2, a1, a2⟩ := ig_out rfl g4 hag2 rfl rfl
      rw [ig_e1] at a1
      rw [ig_e2] at a2
      have eA : A2 = A := Int32.toInt_inj.mp a1
      have eP : P2 = P := Int32.toInt_inj.mp a2
      rw [eA, eP] at i2
      have g5 := g4.2.1
      have hstk : st2 = [.int P, .ref 82, .int P, .ref 112] := by
        have key : ∀ β', sx_ag 5 β β' → sx_st β' [.inl (0, sx_Y 2), .inr (1, 82), .inl (0, sx_Y 2), .inr (1, 112)] st2 := fun β' ha => (sx_st_ag ha rfl).mpr g5
        obtain ⟨x1, q1, rfl, y1, k1⟩ := sx_pi key
        obtain ⟨q2, rfl, k2⟩ := sx_pr k1
        obtain ⟨x3, q3, rfl, y3, k3⟩ := sx_pi k2
        obtain ⟨q4, rfl, k4⟩ := sx_pr k3
        have e4 := ig_st0 (k4 β sx_ag.rf)
        have e1 : x1 = P := Int32.toInt_inj.mp (by rw [y1 β sx_ag.rf, sx_ev_Y, m3])
        have e3 : x3 = P := Int32.toInt_inj.mp (by rw [y3 β sx_ag.rf, sx_ev_Y, m3])
        rw [e1, e3, e4]
      subst hstk
      have gg2 := ig_same g0 i2.2.2.2.2 hfr2
      have run2 := ig_ta (d := d') T hn he gg2 i2.2.2.2.2 (P := P) ⟨p1, by omega⟩
      have rng2 : 0 ≤ (fe_v t P n).toInt ∧ (fe_v t P n).toInt ≤ 65535 := by
        obtain ⟨_, _, _, _, _, _, r1, r2⟩ := run2
        exact ⟨r1, r2⟩
      obtain ⟨⟨ws2, w2, -, -, -⟩, -, -⟩ := gg2
      refine ig_call (pc := 89) rfl rfl w2 (fun hx => ig_cal_ta (rest := [.int P, .ref 112]) (show 1 + (1 + 0) ≤ 8 by decide) hx) (run2.mono (fun r h' q => ⟨q.1, q.2.1⟩)) ?_
      have g6 : sx_at sx_SP z L xs (ig_S (ig_l (sx_Y 1) (sx_Y 2)) [.inl (0, sx_Y 3), .inl (0, sx_Y 2), .inr (1, 112)] (ig_N 1 1 19 1 65535) [ig_lt]) (ig_b A.toInt P.toInt (fe_v t P n).toInt PL.toInt) lv2 [.int (fe_v t P n), .int P, .ref 112] h2 := ig_in i2 ⟨(ig_e3 _ _ _ _).symm, (ig_e2 _ _ _ _).symm, rfl, trivial⟩ ⟨by omega, by omega⟩ ⟨p1, by omega⟩ ⟨ig_nz hgood.2 rng2.1, rng2.2⟩ hl (fun q hq => by
        rw [List.mem_singleton] at hq
        subst hq
        rw [ig_elt]
        omega)
      refine sx_seg (K := ig_K []) (β0 := ig_b A.toInt P.toInt (fe_v t P n).toInt PL.toInt) (h0 := h0) T hd ig_O0 ig_Q0 (fun b hb β lv3 st3 h3 g7 hag3 hfr3 => ?_) 300 92 _ _ lv2 _ h2 ig_r92 (sx_wS_ok rfl g6) sx_ag.rf (Nat.le_refl _) hfr2
      rw [List.mem_singleton] at hb
      subst hb
      have hst := ig_st0 g7.2.1
      subst hst
      obtain ⟨A3, P3, i3, a1, a2⟩ := ig_out rfl g7 hag3 rfl rfl
      rw [ig_e1] at a1
      rw [ig_e21] at a2
      exact ih A3 P3 lv3 h3 (by omega) (by omega) (by omega) (by omega) i3 hfr3
    · rw [List.mem_singleton] at hb
      subst hb
      have hst := ig_st0 g'.2.1
      subst hst
      obtain ⟨A', P', i', a1, a2⟩ := ig_out rfl g' hag rfl rfl
      rw [ig_e1] at a1
      rw [ig_e2] at a2
      exact ig_102 T hd hQ i' ⟨by omega, by omega⟩ ⟨by omega, by omega⟩ hl hfr'
theorem ig_ald {i n pc a : Nat} {lv : ab_L} {st : List Value} {h : ab_H} (hx : ab_lk lv i = some (.ref a)) : ab_ald i n pc lv st h = some (pc + n, lv, .ref a :: st, h) := by
  unfold ab_ald
  rw [hx]
theorem ig_52 (T : ig_T z L xs) (hd : 3 ≤ d) (g0 : ig_G h0 EV f t) (hn : n ≤ 16) (he : EV.toInt = n) (hl : 0 ≤ PL.toInt ∧ PL.toInt ≤ 20) (hQ : ∀ β0 r h', sx_post sx_SP z L xs (ig_K ig_os) β0 h0 r h' → Q r h') {A P : Int32} {lv : ab_L} {h : ab_H} (p1 : 0 ≤ P.toInt) (p2 : P.toInt ≤ 20) (hA : 0 ≤ A.toInt ∧ A.toInt ≤ 1) (good : A.toInt = 1 → ∀ q : Nat, (q : Int) < P.toInt → fe_v f (Int32.ofNat q) n ≠ 0 ∧ fe_v t (Int32.ofNat q) n ≠ 0) (hge : PL.toInt ≤ P.toInt) (i : ig_I z L xs lv h A P PL) (hfr : sx_fr ig_mo h0 h) : ab_go d ab_M_X10_isGraph 52 lv [] h Q := by
  have g : sx_at sx_SP z L xs ig_any (ig_b A.toInt P.toInt 0 PL.toInt) lv [] h := ig_in i trivial hA ⟨p1, p2⟩ ⟨by decide, by decide⟩ hl (fun q hq => (by cases hq))
  refine sx_seg (K := ig_K ig_os) (β0 := ig_b A.toInt P.toInt 0 PL.toInt) (h0 := h0) T hd ig_O1 (hQ _) (fun b hb β lv' st h' g' hag hfr' => ?_) 300 52 _ _ lv [] h ig_r52 (sx_wS_ok rfl g) sx_ag.rf (Nat.le_refl _) hfr
  rw [List.mem_singleton] at hb
  subst hb
  have hst := ig_st0 g'.2.1
  subst hst
  have h1 := g'.2.2.2.2.1 (1, 1, 1) List.mem_cons_self
  have h2 : β 1 = A.toInt := hag 1 (by decide)
  dsimp only at h1
  obtain ⟨A', P', i', a1, a2⟩ := ig_out rfl g' hag rfl rfl
  rw [ig_e1] at a1
  have a2 : P'.toInt = 0 := a2
  exact ig_60 T hd g0 hn he hl (fun q hq => good (by omega) q (by omega)) hQ 20 A' P' lv' h' (by omega) (by omega) (by omega) (by omega) i' hfr'
theorem ig_4 (T : ig_T z L xs) (hd : 3 ≤ d) (g0 : ig_G h0 EV f t) (hn : n ≤ 16) (he : EV.toInt = n) (hl : 0 ≤ PL.toInt ∧ PL.toInt ≤ 20) (hQ : ∀ β0 r h', sx_post sx_SP z L xs (ig_K ig_os) β0 h0 r h' → Q r h') :
    ∀ (k : Nat) (A P : Int32) (lv : ab_L) (h : ab_H), 20 - P.toInt ≤ k → 0 ≤ P.toInt → P.toInt ≤ 20 → (0 ≤ A.toInt ∧ A.toInt ≤ 1) → (A.toInt = 1 → ∀ q : Nat, (q : Int) < P.toInt → fe_v f (Int32.ofNat q) n ≠ 0 ∧ fe_v t (Int32.ofNat q) n ≠ 0) → ig_I z L xs lv h A P PL → sx_fr ig_mo h0 h → ab_go d ab_M_X10_isGraph 4 lv [] h Q := by
  intro k
  induction k with
  | zero =>
    intro A P lv h hk p1 p2 hA good i hfr
    have g : sx_at sx_SP z L xs ig_any (ig_b A.toInt P.toInt 0 PL.toInt) lv [] h := ig_in i trivial hA ⟨p1, p2⟩ ⟨by decide, by decide⟩ hl (fun q hq => (by cases hq))
    refine sx_seg (K := ig_K []) (β0 := ig_b A.toInt P.toInt 0 PL.toInt) (h0 := h0) T hd ig_O0 ig_Q0 (fun b hb β lv' st h' g' hag hfr' => ?_) 300 4 _ _ lv [] h ig_r4 (sx_wS_ok rfl g) sx_ag.rf (Nat.le_refl _) hfr
    have h3 : β 2 = P.toInt := hag 2 (by decide)
    rcases List.mem_cons.mp hb with rfl | hb
    · have h2 := g'.2.2.2.2.1 (2, 0, 19) (List.mem_cons_of_mem _ List.mem_cons_self)
      dsimp only at h2
      omega
    rcases List.mem_cons.mp hb with rfl | hb
    · have h2 := g'.2.2.2.2.1 (2, 0, 19) (List.mem_cons_of_mem _ List.mem_cons_self)
      dsimp only at h2
      omega
    · rw [List.mem_singleton] at hb
      subst hb
      have hst := ig_st0 g'.2.1
      subst hst
      have h4 := g'.2.2.2.2.2.1 ig_ge List.mem_cons_self
      rw [sx_ev_ag hag (show sx_wE 5 ig_ge = true from rfl), ig_ege] at h4
      obtain ⟨A', P', i', a1, a2⟩ := ig_out rfl g' hag rfl rfl
      rw [ig_e1] at a1
      rw [ig_e2] at a2
      have eA : A' = A := Int32.toInt_inj.mp a1
      have eP : P' = P := Int32.toInt_inj.mp a2
      rw [eA, eP] at i'
      exact ig_52 T hd g0 hn he hl hQ p1 p2 hA good (by omega) i' hfr'
  | succ k ih =>
    intro A P lv h hk p1 p2 hA good i hfr
    have zero : ∀ {lv : ab_L} {st : List Value} {h : ab_H} {β : Nat → Int} {x u v : Int}, sx_at sx_SP z L xs (ig_S (ig_l (0, []) (1, [(2, 1)])) [] (ig_N u 1 19 v 65535) []) β lv st h ∨ sx_at sx_SP z L xs (ig_S (ig_l (0, []) (1, [(2, 1)])) [] (ig_N u 1 19 v 2147483647) []) β lv st h → sx_ag 5 (ig_b A.toInt P.toInt x PL.toInt) β → sx_fr ig_mo h0 h → ab_go d ab_M_X10_isGraph 4 lv st h Q := fun {lv st h β x u v} gor hag hfr => by
      have key : ∀ {w : Int}, sx_at sx_SP z L xs (ig_S (ig_l (0, []) (1, [(2, 1)])) [] (ig_N u 1 19 v w) []) β lv st h → ab_go d ab_M_X10_isGraph 4 lv st h Q := fun {w} g' => by
        have hst := ig_st0 g'.2.1
        subst hst
        have h2 := g'.2.2.2.2.1 (2, 0, 19) (List.mem_cons_of_mem _ List.mem_cons_self)
        have h3 : β 2 = P.toInt := hag 2 (by decide)
        dsimp only at h2
        obtain ⟨A', P', i', a1, a2⟩ := ig_out rfl g' hag rfl rfl
        rw [ig_e21] at a2
        have a1 : A'.toInt = 0 := a1
        exact ih A' P' lv h (by omega) (by omega) (by omega) ⟨by omega, by omega⟩ (fun q => by omega) i' hfr
      rcases gor with g' | g'
      · exact key g'
      · exact key g'
    have g : sx_at sx_SP z L xs ig_any (ig_b A.toInt P.toInt 0 PL.toInt) lv [] h := ig_in i trivial hA ⟨p1, p2⟩ ⟨by decide, by decide⟩ hl (fun q hq => (by cases hq))
    refine sx_seg (K := ig_K []) (β0 := ig_b A.toInt P.toInt 0 PL.toInt) (h0 := h0) T hd ig_O0 ig_Q0 (fun b hb β lv' st h' g' hag hfr' => ?_) 300 4 _ _ lv [] h ig_r4 (sx_wS_ok rfl g) sx_ag.rf (Nat.le_refl _) hfr
    have h3 : β 2 = P.toInt := hag 2 (by decide)
    rcases List.mem_cons.mp hb with rfl | hb
    · have h2 := g'.2.2.2.2.1 (2, 0, 19) (List.mem_cons_of_mem _ List.mem_cons_self)
      have h1 := g'.2.2.2.2.1 (1, 1, 1) List.mem_cons_self
      have h1e : β 1 = A.toInt := hag 1 (by decide)
      have h4 := g'.2.2.2.2.2.1 ig_lt List.mem_cons_self
      rw [sx_ev_ag hag (show sx_wE 5 ig_lt = true from rfl), ig_elt] at h4
      dsimp only at h1 h2
      have hst := ig_st0 g'.2.1
      subst hst
      obtain ⟨A', P', i', a1, a2⟩ := ig_out rfl g' hag rfl rfl
      rw [ig_e1] at a1
      rw [ig_e2] at a2
      have eA : A' = A := Int32.toInt_inj.mp a1
      have eP : P' = P := Int32.toInt_inj.mp a2
      rw [eA, eP] at i'
      have gg := ig_same g0 i'.2.2.2.2 hfr'
      obtain ⟨d', rfl⟩ : ∃ d', d = d' + 1 := ⟨d - 1, by omega⟩
      have run := ig_fe (d := d') T hn he gg i'.2.2.2.2 (P := P) ⟨p1, by omega⟩
      have rng : 0 ≤ (fe_v f P n).toInt ∧ (fe_v f P n).toInt ≤ 65535 := by
        obtain ⟨_, _, _, _, _, _, r1, r2⟩ := run
        exact ⟨r1, r2⟩
      obtain ⟨⟨ws, w1, -, -, -⟩, -, -⟩ := gg
      show ab_go (d' + 1) ab_M_X10_isGraph 16 lv' [] h' Q
      refine go_s (pc' := 17) (lv' := lv') (st' := [.ref 82]) (h' := h') rfl rfl (ig_ald i'.1) ?_
      refine go_s (pc' := 18) (lv' := lv') (st' := [.int P, .ref 82]) (h' := h') rfl rfl (po_ild (nL := 0) i'.2.2.1) ?_
      refine ig_call (pc := 18) rfl rfl w1 (fun hx => ig_cal_fe (rest := []) (show 0 ≤ 8 by decide) hx) (run.mono (fun r h' q => ⟨q.1, q.2.1⟩)) ?_
      have g3 : sx_at sx_SP z L xs (ig_S (ig_l (sx_Y 1) (sx_Y 2)) [.inl (0, sx_Y 3)] (ig_N 1 1 19 0 65535) [ig_lt]) (ig_b A.toInt P.toInt (fe_v f P n).toInt PL.toInt) lv' [.int (fe_v f P n)] h' := ig_in i' ⟨(ig_e3 _ _ _ _).symm, trivial⟩ ⟨by omega, by omega⟩ ⟨p1, by omega⟩ rng hl (fun q hq => by
        rw [List.mem_singleton] at hq
        subst hq
        rw [ig_elt]
        omega)
      refine sx_seg (K := ig_K []) (β0 := ig_b A.toInt P.toInt (fe_v f P n).toInt PL.toInt) (h0 := h0) T hd ig_O0 ig_Q0 (fun b hb β lv2 st2 h2 g4 hag2 hfr2 => ?_) 300 21 _ _ lv' _ h' ig_r21 (sx_wS_ok rfl g3) sx_ag.rf (Nat.le_refl _) hfr'
      rcases List.mem_cons.mp hb with rfl | hb
      · have hst := ig_st0 g4.2.1
        subst hst
        have m1 := g4.2.2.2.2.1 (3, 1, 65535) (List.mem_cons_of_mem _ (List.mem_cons_of_mem _ List.mem_cons_self))
        have m2 : β 3 = (fe_v f P n).toInt := hag2 3 (by decide)
        dsimp only at m1
        obtain ⟨A2, P2, i2, a1, a2⟩ := ig_out rfl g4 hag2 rfl rfl
        rw [ig_e1] at a1
        rw [ig_e2] at a2
        have eA : A2 = A := Int32.toInt_inj.mp a1
        have eP : P2 = P := Int32.toInt_inj.mp a2
        rw [eA, eP] at i2
        have gg2 := ig_same g0 i2.2.2.2.2 hfr2
        have run2 := ig_ta (d := d') T hn he gg2 i2.2.2.2.2 (P := P) ⟨p1, by omega⟩
        have rng2 : 0 ≤ (fe_v t P n).toInt ∧ (fe_v t P n).toInt ≤ 65535 := by
          obtain ⟨_, _, _, _, _, _, r1, r2⟩ := run2
          exact ⟨r1, r2⟩
        obtain ⟨⟨ws2, w2, -, -, -⟩, -, -⟩ := gg2
        show ab_go (d' + 1) ab_M_X10_isGraph 28 lv2 [] h2 Q
        refine go_s (pc' := 29) (lv' := lv2) (st' := [.ref 82]) (h' := h2) rfl rfl (ig_ald i2.1) ?_
        refine go_s (pc' := 30) (lv' := lv2) (st' := [.int P, .ref 82]) (h' := h2) rfl rfl (po_ild (nL := 0) i2.2.2.1) ?_
        refine ig_call (pc := 30) rfl rfl w2 (fun hx => ig_cal_ta (rest := []) (show 0 ≤ 8 by decide) hx) (run2.mono (fun r h' q => ⟨q.1, q.2.1⟩)) ?_
        have g6 : sx_at sx_SP z L xs (ig_S (ig_l (sx_Y 1) (sx_Y 2)) [.inl (0, sx_Y 3)] (ig_N 1 1 19 0 65535) [ig_lt]) (ig_b A.toInt P.toInt (fe_v t P n).toInt PL.toInt) lv2 [.int (fe_v t P n)] h2 := ig_in i2 ⟨(ig_e3 _ _ _ _).symm, trivial⟩ ⟨by omega, by omega⟩ ⟨p1, by omega⟩ rng2 hl (fun q hq => by
          rw [List.mem_singleton] at hq
          subst hq
          rw [ig_elt]
          omega)
        refine sx_seg (K := ig_K []) (β0 := ig_b A.toInt P.toInt (fe_v t P n).toInt PL.toInt) (h0 := h0) T hd ig_O0 ig_Q0 (fun b hb β lv3 st3 h3 g7 hag3 hfr3 => ?_) 300 33 _ _ lv2 _ h2 ig_r33 (sx_wS_ok rfl g6) sx_ag.rf (Nat.le_refl _) hfr2
        rcases List.mem_cons.mp hb with rfl | hb
        · have hst := ig_st0 g7.2.1
          subst hst
          have m3 := g7.2.2.2.2.1 (3, 1, 65535) (List.mem_cons_of_mem _ (List.mem_cons_of_mem _ List.mem_cons_self))
          have m4 : β 3 = (fe_v t P n).toInt := hag3 3 (by decide)
          dsimp only at m3
          obtain ⟨A3, P3, i3, a1, a2⟩ := ig_out rfl g7 hag3 rfl rfl
          rw [ig_e21] at a2
          have a1 : A3.toInt = 1 := a1
          refine ih A3 P3 lv3 h3 (by omega) (by omega) (by omega) ⟨by omega, by omega⟩ (fun _ q hq => ?_) i3 hfr3
          by_cases hqp : (q : Int) < P.toInt
          · exact good (by omega) q hqp
          · have hqe : q = P.toInt.toNat := by omega
            subst hqe
            rw [← ig_ofn p1]
            exact ⟨ig_nz2 (by omega), ig_nz2 (by omega)⟩
        · rw [List.mem_singleton] at hb
          subst hb
          exact zero (Or.inl g7) hag3 hfr3
      · rw [List.mem_singleton] at hb
        subst hb
        exact zero (Or.inl g4) hag2 hfr2
    rcases List.mem_cons.mp hb with rfl | hb
    · exact zero (Or.inr g') hag hfr'
    · rw [List.mem_singleton] at hb
      subst hb
      have hst := ig_st0 g'.2.1
      subst hst
      have h4 := g'.2.2.2.2.2.1 ig_ge List.mem_cons_self
      rw [sx_ev_ag hag (show sx_wE 5 ig_ge = true from rfl), ig_ege] at h4
      obtain ⟨A', P', i', a1, a2⟩ := ig_out rfl g' hag rfl rfl
      rw [ig_e1] at a1
      rw [ig_e2] at a2
      have eA : A' = A := Int32.toInt_inj.mp a1
      have eP : P' = P := Int32.toInt_inj.mp a2
      rw [eA, eP] at i'
      exact ig_52 T hd g0 hn he hl hQ p1 p2 hA good (by omega) i' hfr'
theorem ig_holds (T : ig_T z L xs) : sx_holds sx_SP z L xs kg_X10_isGraph_0 := by
  refine ⟨⟨by decide +kernel, rfl⟩, fun M hM d hd β As h g => ?_⟩
  have e : M = ab_M_X10_isGraph := Option.some.inj (hM.symm.trans rfl)
  subst e
  obtain ⟨-, g2, -, -, -, -, hh⟩ := g
  have hAs : As = [.ref 82] := by
    obtain ⟨q, rfl, h1⟩ := sx_pr (β := β) (nx := 0) (st := As) (a := 82) (r := []) (fun β' _ => (sx_st_ag (n := 0) (fun s hs => absurd hs (Nat.not_lt_zero _)) rfl).mpr g2)
    rw [ig_st0 (h1 β sx_ag.rf)]
  subst hAs
  show ab_go d ab_M_X10_isGraph 0 [(0, .ref 82)] [] h _
  obtain ⟨EV, f, t, g0, e1, e2⟩ := ig_heap hh
  -- the places, as they stand
  have hpl : ∃ PL : Int32, sx_fd h 10506 = some (.int PL) ∧ 0 ≤ PL.toInt ∧ PL.toInt ≤ 20 := by
    have hc : ∃ fs, sx_cel sx_SP 82 = some (.inr (10, fs)) ∧ fs[10]? = some (0, 0, 20, []) := ⟨_, rfl, rfl⟩
    obtain ⟨fs, c1, c2⟩ := hc
    obtain ⟨r1, r2, -⟩ := sx_cel_ok c1 hh
    obtain ⟨ws, ew, hlen, hfv⟩ := sx_c_o r2
    rw [ew] at r1
    have hkl : 10 < ws.length := by rw [← hlen]; exact (List.getElem?_eq_some_iff.mp c2).1
    obtain ⟨PL, p1, p2, p3⟩ := hfv 10 _ _ c2 (List.getElem?_eq_getElem hkl)
    refine ⟨PL, ?_, p2, p3⟩
    rw [show 10506 = 82 * 128 + 10 from rfl, sx_fd_o r1 (by decide), List.getElem?_eq_getElem hkl, p1]
  obtain ⟨PL, l1, l2, l3⟩ := hpl
  have gs : sx_at sx_SP z L xs (ig_S [(0, .inr (1, 82))] [] (ig_N 0 1 20 (-2147483648) 2147483647) []) (ig_b 0 0 0 PL.toInt) [(0, .ref 82)] [] h := by
    refine ⟨fun q hq => ?_, trivial, fun q hq => ?_, fun q hq => (by cases hq), fun q hq => ?_, fun q hq => (by cases hq), hh⟩
    · rcases List.mem_cons.mp hq with rfl | hq
      · exact ⟨_, rfl, rfl⟩
      cases hq
    · rcases List.mem_cons.mp hq with rfl | hq
      · exact ⟨_, l1, by show PL.toInt = _; rw [sx_ev_Y]; rfl⟩
      cases hq
    · rcases List.mem_cons.mp hq with rfl | hq
      · show 0 ≤ (0 : Int) ∧ (0 : Int) ≤ 1
        decide
      rcases List.mem_cons.mp hq with rfl | hq
      · show 0 ≤ (0 : Int) ∧ (0 : Int) ≤ 20
        decide
      rcases List.mem_cons.mp hq with rfl | hq
      · show -2147483648 ≤ (0 : Int) ∧ (0 : Int) ≤ 2147483647
        decide
      rcases List.mem_cons.mp hq with rfl | hq
      · exact ⟨l2, l3⟩
      cases hq
  refine sx_seg (K := ig_K []) (β0 := ig_b 0 0 0 PL.toInt) (h0 := h) T hd ig_O0 ig_Q0 (fun b hb β2 lv' st h' g' hag hfr' => ?_) 300 0 _ _ _ [] h ig_r0 (sx_wS_ok rfl gs) sx_ag.rf (Nat.le_refl _) sx_fr.rf
  rw [List.mem_singleton] at hb
  subst hb
  have hst := ig_st0 g'.2.1
  subst hst
  obtain ⟨A, P, i, a1, a2⟩ := ig_out rfl g' hag rfl rfl
  have a1 : A.toInt = 1 := a1
  have a2 : P.toInt = 0 := a2
  refine ig_4 T hd g0 (n := EV.toInt.toNat) (by omega) (by omega) ⟨l2, l3⟩ (fun β0 r h' hp => ?_) 20 A P lv' h' (by omega) (by omega) (by omega) ⟨by omega, by omega⟩ (fun _ q hq => by omega) i hfr'
  obtain ⟨O, hO, β1, b1, b2, b3⟩ := hp
  rw [show (ig_K ig_os).2.2.2.2 = ig_os from rfl, show ig_os = [([], [.inl (0, (0, [(5, 1)]))], [], [], [(5, 0, 1)], [], 6)] from rfl, List.mem_singleton] at hO
  subst hO
  refine ⟨_, List.mem_cons_self, sx_bu β 1 (β1 5), sx_bu_ag, ?_, b3⟩
  have e1 : sx_bu β 1 (β1 5) 1 = β1 5 := if_pos rfl
  obtain ⟨c1, c2, -, -, c5, -, ch⟩ := b2
  refine ⟨fun q hq => (by cases hq), ?_, fun q hq => (by cases hq), fun q hq => (by cases hq), fun q hq => ?_, fun q hq => (by cases hq), ch⟩
  · cases hr : r.toList with
    | nil => rw [hr] at c2; exact c2.elim
    | cons w ws =>
      rw [hr] at c2
      refine ⟨?_, ?_⟩
      · have c3 := c2.1
        cases w with
        | int x =>
          have e : x.toInt = sx_ev β1 (0, [(5, 1)]) := c3
          show x.toInt = sx_ev _ (0, [(1, 1)])
          rw [e, show sx_ev β1 (0, [(5, 1)]) = β1 5 from sx_ev_Y β1 5, show sx_ev (sx_bu β 1 (β1 5)) (0, [(1, 1)]) = sx_bu β 1 (β1 5) 1 from sx_ev_Y _ 1, e1]
        | _ => exact c3.elim
      · cases ws with
        | nil => trivial
        | cons _ _ => exact c2.2.elim
  · have hq : q ∈ [((1 : Nat), (0 : Int), (1 : Int))] := hq
    rw [List.mem_singleton] at hq
    subst hq
    show 0 ≤ sx_bu β 1 (β1 5) 1 ∧ sx_bu β 1 (β1 5) 1 ≤ 1
    rw [e1]
    exact c5 (5, 0, 1) List.mem_cons_self
end IH
