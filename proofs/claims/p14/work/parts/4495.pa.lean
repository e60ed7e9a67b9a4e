/-! ===== reading an event ===== -/
def LV (p : Int) (a : Nat) (K : Int32 × Int32) (F T : Int32) (c m : dc_M) : Prop := GV p c m ∧ c.2.2.1 2 8 = a ∧ NT a F T c m ∧ c.1 a 2 = K.1 ∧ c.1 a 0 = K.2
theorem LV.ha {p : Int} {a : Nat} {K : Int32 × Int32} {F T : Int32} {c m : dc_M} (l : LV p a K F T c m) : a = 41 ∨ a = 52 := by
  have := l.1.2.2.1
  rw [l.2.1] at this
  exact this
theorem LV.fr {p : Int} {a : Nat} {K : Int32 × Int32} {F T : Int32} {c m c' m' : dc_M} (l : LV p a K F T c m) (g : GV p c' m') (x : fc c c') (y : fm m m') : LV p a K F T c' m' := ⟨g, by rw [x.2]; exact l.2.1, l.2.2.1.fr l.ha x y, (x.1 a 2 (by have := l.ha; omega)).trans l.2.2.2.1, (x.1 a 0 (by have := l.ha; omega)).trans l.2.2.2.2⟩
theorem LV.take1 {p : Int} {a : Nat} {K : Int32 × Int32} {F T : Int32} {c m e e' : dc_M} (l : LV p a K F T c m) (h1 : d_X4_take 2 c = some e) (h2 : d_X10_next 82 m = some e') : LV (c.1 2 4).toInt a K F T e e' ∨ DD e e' := by
  rcases l.1.take1 h1 h2 with ⟨g, x, y⟩ | d
  · exact Or.inl ⟨g, by rw [x.2]; exact l.2.1, l.2.2.1.fr l.ha x y, (x.1 a 2 (by have := l.ha; omega)).trans l.2.2.2.1, (x.1 a 0 (by have := l.ha; omega)).trans l.2.2.2.2⟩
  · exact Or.inr d
theorem LV.take {p : Int} {a : Nat} {K : Int32 × Int32} {F T : Int32} {c m e e' : dc_M} (l : LV p a K F T c m) (hs : (c.1 2 5).toInt ≠ 0) (h1 : d_X4_take 2 c = some e) (h2 : d_X10_next 82 m = some e') : LV p a K F T e e' ∨ DD e e' := by
  rcases l.1.take hs h1 h2 with ⟨g, x, y⟩ | d
  · exact Or.inl (l.fr g x y)
  · exact Or.inr d
/-- what reading an event leaves alive: one bit more on its side -/
def EO (p : Int) (a : Nat) (K : Int32 × Int32) (F T x1 b : Int32) (c m : dc_M) : Prop := ∃ e : Int32, (0 ≤ e.toInt ∧ e.toInt < 16) ∧ b = (1 : Int32) <<< (e &&& 31) ∧ ((x1.toInt = 0 ∧ b32 T e.toNatClampNeg = false ∧ LV p a K F (T ||| b) c m) ∨ (¬ x1.toInt = 0 ∧ b32 F e.toNatClampNeg = false ∧ LV p a K (F ||| b) T c m))
theorem st_sM {m : dc_M} {e v : Int32} : sM m (stM m e v) := ⟨fun k _ => by unfold stM; rw [wi_k (by omega), wi_k (by omega)], fun k => by unfold stM; rw [wi_k (by omega), wi_k (by omega)]⟩
theorem sf_sM {m : dc_M} {e v : Int32} : sM m (sfM m e v) := ⟨fun k _ => by unfold sfM; rw [wi_k (by omega), wi_k (by omega)], fun k => by unfold sfM; rw [wi_k (by omega), wi_k (by omega)]⟩
theorem sR.rf {c : dc_M} : sR c c := ⟨fun _ _ _ => rfl, rfl⟩
theorem ev_309 {p : Int} {a : Nat} {K : Int32 × Int32} {F T x1 S A A' e : Int32} {c m e' : dc_M} {z : Int32 × dc_M} (l : LV p a K F T c m) (hS : S = if x1.toInt = 0 then T else F) (h0 : 0 ≤ e.toInt) (h1 : e.toInt < (c.1 a 1).toInt) (hA : A = A') (g1 : d_X4_readEvent_b151 2 S A e c = some z) (g2 : d_X10_readEvent_b309 82 x1 A' e m = some e') : EO p a K F T x1 z.1 z.2 e' ∨ DD z.2 e' := by
  have ⟨g, hn, N, hK⟩ := l
  obtain ⟨w, ⟨e1, e2, e3, e4⟩, s, ⟨p1, p2, p3, p4⟩, b⟩ := N
  have h1' : e.toInt < (cn a c 0 1).toInt := h1
  have hc := cl_n h0
  obtain ⟨-, -, -, -, -, eb⟩ := e4 e.toNatClampNeg (by omega)
  have hP := cl_n p2
  obtain ⟨u1, u2, u3⟩ := eb (cn a c 0 2).toNatClampNeg (by omega)
  obtain ⟨u3, u4⟩ := u3 (by omega)
  rw [u3, Bool.false_or, decide_eq_true rfl, Bool.true_and, p1] at u1
  rw [u4, Bool.false_or, decide_eq_true rfl, Bool.true_and, p1] at u2
  have u1 : b32 (m.1 (82 + 15) e.toNatClampNeg) (m.1 82 30).toNatClampNeg = b32 T e.toNatClampNeg := u1
  have u2 : b32 (m.1 (82 + 16) e.toNatClampNeg) (m.1 82 30).toNatClampNeg = b32 F e.toNatClampNeg := u2
  have hp : 0 ≤ (m.1 82 30).toInt ∧ (m.1 82 30).toInt < 32 := by rw [← p1]; omega
  unfold d_X4_readEvent_b151 at g1
  rw [if_pos h0] at g1
  unfold d_X10_readEvent_b309 d_X10_readEvent_b338 at g2
  by_cases hx : x1.toInt = 0
  · rw [if_pos hx] at hS g2
    subst hS
    by_cases hb : b32 S e.toNatClampNeg = false
    · rw [if_pos ((b32_t ⟨h0, by omega⟩).mpr hb)] at g1
      cases g1
      rw [if_pos ((b32_m hp).mpr (u1.trans hb))] at g2
      unfold d_X10_readEvent_b350 d_X10_readEvent_b368 at g2
      rw [if_pos hx, if_pos hx] at g2
      have g2 : some (stM m e ((1 : Int32) <<< (m.1 82 30 &&& 31))) = some e' := g2
      cases g2
      exact Or.inl ⟨e, ⟨h0, by omega⟩, rfl, Or.inl ⟨hx, hb, g.s sR.rf st_sM, hn, l.2.2.1.st h0 h1, hK⟩⟩
    · rw [if_neg (fun q => hb ((b32_t ⟨h0, by omega⟩).mp q)), dc_let_eq] at g1
      cases g1
      rw [if_neg (fun q => hb (u1.symm.trans ((b32_m hp).mp q))), dc_let_eq] at g2
      obtain ⟨f, v, d1, d2⟩ := g.rf (w := 5) (by decide) hA
      exact Or.inr ⟨f, v, d1, de_X10_readEvent_b350 d2 g2⟩
  · rw [if_neg hx] at hS g2
    subst hS
    by_cases hb : b32 S e.toNatClampNeg = false
    · rw [if_pos ((b32_t ⟨h0, by omega⟩).mpr hb)] at g1
      cases g1
      rw [if_pos ((b32_m hp).mpr (u2.trans hb))] at g2
      unfold d_X10_readEvent_b350 d_X10_readEvent_b368 at g2
      rw [if_neg hx, if_neg hx] at g2
      have g2 : some (sfM m e ((1 : Int32) <<< (m.1 82 30 &&& 31))) = some e' := g2
      cases g2
      exact Or.inl ⟨e, ⟨h0, by omega⟩, rfl, Or.inr ⟨hx, hb, g.s sR.rf sf_sM, hn, l.2.2.1.sf h0 h1, hK⟩⟩
    · rw [if_neg (fun q => hb ((b32_t ⟨h0, by omega⟩).mp q)), dc_let_eq] at g1
      cases g1
      rw [if_neg (fun q => hb (u2.symm.trans ((b32_m hp).mp q))), dc_let_eq] at g2
      obtain ⟨f, v, d1, d2⟩ := g.rf (w := 5) (by decide) hA
      exact Or.inr ⟨f, v, d1, de_X10_readEvent_b350 d2 g2⟩
theorem ev_end {p : Int} {a : Nat} {K : Int32 × Int32} {F T x1 S A A' q r i : Int32} {c m e' : dc_M} {z : Int32 × dc_M} (l : LV p a K F T c m) (hS : S = if x1.toInt = 0 then T else F) (hA : A = A') (hq0 : 0 ≤ q.toInt ∧ q.toInt < K.2.toInt) (h1 : d_X4_readEvent_b128 2 S A q r i c = some z) (h2 : d_X10_readEvent_b172 82 x1 A' q r i m = some e') : EO p a K F T x1 z.1 z.2 e' ∨ DD z.2 e' := by
  have ⟨g, hn, N, hK⟩ := l
  have ha := l.ha
  have e24 : c.1 a 1 = m.1 82 24 := N.2.1.1
  have e0 : 0 ≤ (c.1 a 1).toInt := N.2.1.2.1
  have e16 : (c.1 a 1).toInt ≤ 16 := N.2.1.2.2.1
  unfold d_X4_readEvent_b128 at h1
  rw [if_neg (fun q => q (by rw [g.n1]; rfl))] at h1
  unfold d_X10_readEvent_b172 at h2
  rw [if_pos (by rw [g.n2]; decide)] at h2
  cases hq : d_X4_numberOf 2 q r i c with
  | none => rw [hq] at h1; cases h1
  | some y =>
    rw [hq, Option.bind_some] at h1
    unfold d_X4_numberOf at hq
    rw [hn] at hq
    cases hl : d_X3_eventLike a q r i c with
    | none => rw [hl] at hq; cases hq
    | some k =>
      rw [hl, Option.bind_some] at hq
      rcases el_sim N.2.1 hl h2 with ⟨rfl, h2⟩ | ⟨l0, l1, h2⟩
      · rw [if_pos (by decide), dc_let_eq] at hq
        unfold d_X10_readEvent_b233 at h2
        by_cases h16 : (c.1 a 1).toInt < 16
        · rw [ae_eq ha h16] at hq
          cases hq
          rw [if_pos (by rw [← e24]; omega), if_neg (fun q => q rfl)] at h2
          have h2 : d_X10_readEvent_b309 82 x1 A' (m.1 82 24) (neM m (m.1 82 24) q r i) = some e' := h2
          rw [← e24] at h2
          have i1' : (c.1 a 1 + 1).toInt = (c.1 a 1).toInt + 1 := i1 (by omega) (Int32.le_toInt _)
          refine ev_309 (e := c.1 a 1) (c := aeM a c q r i) (m := neM m (c.1 a 1) q r i) ⟨g.s ⟨fun b k hb => ae_n (by omega) (by omega), rfl⟩ ⟨fun k hk => ne_n (by omega) (by omega), fun k => ne_n (by omega) (by omega)⟩, hn, N.ae h16 (by rw [hK.2]; exact hq0), (ae_n (by omega) (by omega)).trans hK.1, (ae_n (by omega) (by omega)).trans hK.2⟩ hS e0 ?_ hA h1 h2
          rw [show (aeM a c q r i).1 a 1 = c.1 a 1 + 1 from wi_s]
          omega
        · unfold d_X3_addEvent at hq
          rw [if_neg h16] at hq
          cases hq
          have h1 : d_X4_readEvent_b151 2 S A (-4) c = some z := h1
          unfold d_X4_readEvent_b151 at h1
          rw [if_neg (by decide), dc_let_eq] at h1
          cases h1
          rw [if_neg (fun q => q (by rw [← e24]; omega)), dc_let_eq] at h2
          cases h2
          exact Or.inr (g.rf (w := 6) (by decide) hA)
      · rw [if_neg (by omega)] at hq
        cases hq
        unfold d_X10_readEvent_b233 at h2
        rw [if_pos (by omega), if_pos (by rw [← e24]; omega)] at h2
        exact ev_309 l hS l0 l1 hA h1 h2
theorem ev_s2 {p : Int} {a : Nat} {K : Int32 × Int32} {F T x1 S A A' q r : Int32} {c m e' : dc_M} {z : Int32 × dc_M} (l : LV p a K F T c m) (hs : (c.1 2 5).toInt ≠ 0) (hS : S = if x1.toInt = 0 then T else F) (hA : A = A') (hq0 : 0 ≤ q.toInt ∧ q.toInt < K.2.toInt) (h1 : d_X4_readEvent_b105 2 S A q r c = some z) (h2 : d_X10_readEvent_b113 82 x1 A' q r m = some e') : EO p a K F T x1 z.1 z.2 e' ∨ DD z.2 e' := by
  unfold d_X4_readEvent_b105 at h1
  unfold d_X10_readEvent_b113 at h2
  cases t1 : d_X4_take 2 c with
  | none => rw [t1] at h1; cases h1
  | some c1 =>
    cases t2 : d_X10_next 82 m with
    | none => rw [t2] at h2; cases h2
    | some m1 =>
      rw [t1, Option.bind_some] at h1
      rw [t2, Option.bind_some] at h2
      rcases l.take hs t1 t2 with l1 | ⟨f, v, d1, d2⟩
      · rw [if_neg (fun q => q (by rw [l1.1.n2]; rfl))] at h2
        have s47 := l1.1.2.1.sign 47
        by_cases y : (d_X4_isSign 2 47 c1).toInt = 0
        · rw [if_pos y] at h1
          rw [if_pos (s47.1.mp y)] at h2
          exact ev_end l1 hS hA hq0 h1 h2
        · rw [if_neg y] at h1
          rw [if_neg (fun q => y (s47.1.mpr q))] at h2
          have n3 := (s47.2 y).1
          cases t3 : d_X4_readIndex 2 c1 with
          | none => rw [t3] at h1; cases h1
          | some y1 =>
            rw [t3, Option.bind_some] at h1
            unfold d_X4_readIndex at t3
            cases t4 : d_X4_take 2 c1 with
            | none => rw [t4] at t3; cases t3
            | some c2 =>
              cases t5 : d_X10_next 82 m1 with
              | none => rw [t5] at h2; cases h2
              | some m2 =>
                rw [t4, Option.bind_some] at t3
                rw [t5, Option.bind_some] at h2
                rcases l1.take (by omega) t4 t5 with l2 | ⟨f, v, d1, d2⟩
                · rw [if_neg (fun q => q (by rw [l2.1.n2]; rfl))] at h2
                  have e5 : c2.1 2 5 = m2.1 82 19 := l2.1.2.1.2.2.1
                  rw [← e5] at h2
                  by_cases n2 : (c2.1 2 5).toInt = 2
                  · rw [if_pos n2] at t3 h2
                    unfold d_X10_readEvent_b162 at h2
                    cases t6 : d_X4_take 2 c2 with
                    | none => rw [t6] at t3; cases t3
                    | some c3 =>
                      cases t7 : d_X10_next 82 m2 with
                      | none => rw [t7] at h2; cases h2
                      | some m3 =>
                        rw [t6, Option.bind_some] at t3
                        rw [t7, Option.bind_some] at h2
                        cases t3
                        have h1 : d_X4_readEvent_b128 2 S A q r (c2.1 2 7 - 48) c3 = some z := h1
                        rw [(l2.1.2.1.num n2).2] at h1
                        rcases l2.take (by omega) t6 t7 with l3 | ⟨f, v, d1, d2⟩
                        · exact ev_end l3 hS hA hq0 h1 h2
                        · exact Or.inr ⟨f, v, dd_X4_readEvent_b128 d1 h1, de_X10_readEvent_b172 d2 h2⟩
                  · rw [if_neg n2, dc_let_eq] at t3 h2
                    cases t3
                    rw [fs_eq] at h2
                    obtain ⟨f, v, d1, d2⟩ := l2.1.rf (w := 2) (by decide) l2.1.pl
                    exact Or.inr ⟨f, v, dd_X4_readEvent_b128 d1 h1, de_X10_readEvent_b162 d2 h2⟩
                · have d3 : dd f v y1.2 := by
                    split at t3
                    · cases t6 : d_X4_take 2 c2 with
                      | none => rw [t6] at t3; cases t3
                      | some c3 =>
                        rw [t6, Option.bind_some] at t3
                        cases t3
                        exact dd_take d1 t6
                    · rw [dc_let_eq] at t3
                      cases t3
                      exact dd_refuse d1
                  rw [if_pos (by rw [d2.1]; have := d2.2.2; omega)] at h2
                  exact Or.inr ⟨f, v, dd_X4_readEvent_b128 d3 h1, de_X10_readEvent_b162 d2 h2⟩
      · rw [if_pos (by rw [d2.1]; have := d2.2.2; omega)] at h2
        refine Or.inr ⟨f, v, ?_, de_X10_readEvent_b172 d2 h2⟩
        split at h1
        · exact dd_X4_readEvent_b128 d1 h1
        · cases t3 : d_X4_readIndex 2 c1 with
          | none => rw [t3] at h1; cases h1
          | some y1 =>
            rw [t3, Option.bind_some] at h1
            exact dd_X4_readEvent_b128 (dd_X4_readIndex d1 t3) h1
theorem ev_sim {p : Int} {a : Nat} {K : Int32 × Int32} {F T x1 S : Int32} {c m e' : dc_M} {z : Int32 × dc_M} (l : LV p a K F T c m) (hS : S = if x1.toInt = 0 then T else F) (h1 : d_X4_readEvent 2 S c = some z) (h2 : d_X10_readEvent 82 x1 m = some e') : EO p a K F T x1 z.1 z.2 e' ∨ DD z.2 e' := by
  have ⟨g, hn, N, hK⟩ := l
  unfold d_X4_readEvent at h1
  unfold d_X10_readEvent at h2
  rw [if_neg (fun q => q (by rw [g.n2]; rfl))] at h2
  rcases tk.letter g.1 g.2.1 with ⟨l1, l2⟩ | ⟨l1, l2, l3, l4⟩
  · rw [if_pos l1] at h1
    rw [if_neg (fun q => q l2), dc_let_eq, fs_eq] at h2
    unfold d_X4_readEvent_b31 at h1
    rw [if_neg (by decide), if_pos l1, dc_let_eq] at h1
    cases h1
    obtain ⟨f, v, d1, d2⟩ := g.rf (w := 2) (by decide) g.pl
    exact Or.inr ⟨f, v, d1, de_X10_readEvent_b24 d2 h2⟩
  · rw [if_neg l1, hn, l4] at h1
    rw [if_pos l2] at h2
    unfold d_X10_readEvent_b24 at h2
    rw [if_neg (fun q => q (by rw [g.n2]; rfl))] at h2
    cases hw : d_X3_wireCalled a (m.1 82 20 - 1) c with
    | none => rw [hw] at h1; cases h1
    | some w =>
      cases hw' : d_X10_wireAt 82 (m.1 82 20 - 1) m with
      | none => rw [hw'] at h2; cases h2
      | some w' =>
        rw [hw, Option.bind_some] at h1
        rw [hw', Option.bind_some] at h2
        obtain ⟨rfl, hq⟩ := wc_sim N.1 hw hw'
        unfold d_X4_readEvent_b31 at h1
        unfold d_X10_readEvent_b46 at h2
        rw [if_neg (fun q => q (by rw [g.n2]; rfl))] at h2
        rcases hq with rfl | ⟨q0, q1⟩
        · rw [if_neg (by decide), if_neg l1, dc_let_eq] at h1
          cases h1
          rw [if_neg (fun q => q (by decide)), dc_let_eq, fs_eq] at h2
          obtain ⟨f, v, d1, d2⟩ := g.rf (w := 4) (by decide) g.pl
          exact Or.inr ⟨f, v, d1, de_X10_readEvent_b65 d2 h2⟩
        · rw [if_pos q0] at h1
          rw [if_pos (by omega)] at h2
          unfold d_X10_readEvent_b65 at h2
          cases t1 : d_X4_take 2 c with
          | none => rw [t1] at h1; cases h1
          | some c1 =>
            cases t2 : d_X10_next 82 m with
            | none => rw [t2] at h2; cases h2
            | some m1 =>
              rw [t1, Option.bind_some] at h1
              rw [t2, Option.bind_some] at h2
              rcases l.take (by omega) t1 t2 with l1 | ⟨f, v, d1, d2⟩
              · rw [if_neg (fun q => q (by rw [l1.1.n2]; rfl))] at h2
                have s43 := l1.1.2.1.sign 43
                have s45 := l1.1.2.1.sign 45
                by_cases z3 : (d_X4_isSign 2 43 c1).toInt = 0
                · rw [if_neg (fun q => q z3)] at h1
                  rw [if_neg (fun q => q (s43.1.mp z3))] at h2
                  by_cases z5 : (d_X4_isSign 2 45 c1).toInt = 0
                  · rw [if_neg (fun q => q z5), dc_let_eq] at h1
                    rw [if_neg (fun q => q (s45.1.mp z5)), dc_let_eq, fs_eq] at h2
                    cases h1
                    obtain ⟨f, v, d1, d2⟩ := l1.1.rf (w := 2) (by decide) l1.1.pl
                    exact Or.inr ⟨f, v, d1, de_X10_readEvent_b99 d2 h2⟩
                  · rw [if_pos z5] at h1
                    rw [if_pos (fun q => z5 (s45.1.mpr q))] at h2
                    obtain ⟨k3, k7⟩ := s45.2 z5
                    unfold d_X4_readEvent_b91 at h1
                    rw [if_pos (by rw [k7]; decide)] at h1
                    unfold d_X10_readEvent_b99 at h2
                    rw [if_pos (s43.1.mp z3)] at h2
                    exact ev_s2 l1 (by omega) hS g.pl ⟨q0, by rw [← hK.2]; exact q1⟩ h1 h2
                · rw [if_pos z3] at h1
                  rw [if_pos (fun q => z3 (s43.1.mpr q))] at h2
                  obtain ⟨k3, k7⟩ := s43.2 z3
                  unfold d_X4_readEvent_b91 at h1
                  rw [if_neg (fun q => q (by rw [k7]; rfl))] at h1
                  unfold d_X10_readEvent_b99 at h2
                  rw [if_neg (fun q => z3 (s43.1.mpr q))] at h2
                  exact ev_s2 l1 (by omega) hS g.pl ⟨q0, by rw [← hK.2]; exact q1⟩ h1 h2
              · rw [if_pos (by rw [d2.1]; have := d2.2.2; omega)] at h2
                refine Or.inr ⟨f, v, ?_, de_X10_readEvent_b99 d2 h2⟩
                split at h1
                · exact dd_X4_readEvent_b91 d1 h1
                · split at h1
                  · exact dd_X4_readEvent_b91 d1 h1
                  · rw [dc_let_eq] at h1
                    cases h1
                    exact dd_refuse d1
