/-! ===== places, wires, lines on both sides ===== -/
/-- a line's end: alive at some number of places with nothing at hand, or the same fault -/
def LO (p : Int) (a : Nat) (c m : dc_M) : Prop := (∃ K, LV p a K 0 0 c m) ∨ DD c m
theorem de.nz {f g : Int32} {m : dc_M} (h : de f g m) : ¬ (m.1 82 15).toInt = 0 := by
  rw [h.1]
  have := h.2.2
  omega
theorem pl_132 {p : Int} {a : Nat} {K : Int32 × Int32} {F T v s0 : Int32} {c m e m1 e' : dc_M} (hv : v = 0 ∨ v = 1) (l : LV p a K F T c m) (hK : K.1.toInt < 20) (hs : (c.1 2 5).toInt ≠ 0) (h0 : s0 = v <<< (m.1 82 30 &&& 31)) (h1 : (d_X4_take 2 c).bind (fun q1 => (d_X4_takeSign 2 59 q1).bind (fun q2 => (d_X3_addPlace (q2.2.2.1 2 8) F T v q2).bind (fun q3 => some q3))) = some e) (h2 : d_X10_readPlace_b132 82 s0 (m.1 82 31) 82 m = some m1) (h3 : d_X10_readLine_b108 82 m1 = some e') : LO p a e e' := by
  have ⟨g, hn, N, hk⟩ := l
  have ha := l.ha
  unfold d_X10_readPlace_b132 at h2
  unfold d_X10_readLine_b108 at h3
  generalize hM : dc_wi m 82 31 (m.1 82 31 ||| s0) = M at h2
  have sM1 : sM m M := by rw [← hM]; exact ⟨fun k hk => wi_k (by omega), fun k => wi_k (by omega)⟩
  have gM : GV p c M := g.s sR.rf sM1
  cases t1 : d_X4_take 2 c with
  | none => rw [t1] at h1; cases h1
  | some c1 =>
    cases t2 : d_X10_next 82 M with
    | none => rw [t2] at h2; cases h2
    | some m2 =>
      rw [t1, Option.bind_some] at h1
      rw [t2, Option.bind_some] at h2
      cases t3 : d_X4_takeSign 2 59 c1 with
      | none => rw [t3] at h1; cases h1
      | some c2 =>
        rw [t3, Option.bind_some] at h1
        cases t4 : d_X3_addPlace (c2.2.2.1 2 8) F T v c2 with
        | none => rw [t4] at h1; cases h1
        | some c3 =>
          rw [t4, Option.bind_some] at h1
          cases h1
          rcases gM.take hs t1 t2 with ⟨g1, x1, y1⟩ | ⟨f, w, d1, d2⟩
          · rw [if_neg (fun q => q (by rw [g1.n2]; rfl))] at h2
            cases h2
            generalize hM2 : dc_wi m2 82 30 (m2.1 82 30 + 1) = M2 at h3
            have sM2 : sM m2 M2 := by rw [← hM2]; exact ⟨fun k hk => wi_k (by omega), fun k => wi_k (by omega)⟩
            have gM2 : GV p c1 M2 := g1.s sR.rf sM2
            rw [if_neg (fun q => q (by rw [gM2.n2]; rfl))] at h3
            have s59 := gM2.2.1.sign 59
            unfold d_X4_takeSign at t3
            by_cases y : (d_X4_isSign 2 59 c1).toInt = 0
            · rw [if_pos y, dc_let_eq] at t3
              cases t3
              rw [if_neg (fun q => q (s59.1.mp y)), dc_let_eq, fs_eq] at h3
              obtain ⟨f, w, d1, d2⟩ := gM2.rf (w := 2) (by decide) gM2.pl
              exact Or.inr ⟨f, w, dd_X3_addPlace d1.2.2.2 d1 t4, de_X10_readLine_b129 d2 h3⟩
            · rw [if_neg y] at t3
              rw [if_pos (fun q => y (s59.1.mpr q))] at h3
              have n3 := (s59.2 y).1
              unfold d_X10_readLine_b129 at h3
              cases t5 : d_X4_take 2 c1 with
              | none => rw [t5] at t3; cases t3
              | some c5 =>
                cases t6 : d_X10_next 82 M2 with
                | none => rw [t6] at h3; cases h3
                | some m5 =>
                  rw [t5, Option.bind_some] at t3
                  rw [t6, Option.bind_some] at h3
                  cases t3
                  cases h3
                  rcases gM2.take (by omega) t5 t6 with ⟨g2, x2, y2⟩ | ⟨f, w, d1, d2⟩
                  · have xx := x1.tr x2
                    have hn2 : c2.2.2.1 2 8 = a := by rw [xx.2]; exact hn
                    rw [hn2] at t4
                    have N2 : NT a F T c2 m := N.eq (xx.cn ha) rfl (fun _ _ => rfl)
                    have k2 : c2.1 a 2 = K.1 := (xx.1 a 2 (by omega)).trans hk.1
                    have e1 : ∀ k, ¬ (15 ≤ k ∧ k ≤ 20) → e'.1 82 k = M2.1 82 k := fun k hk => y2.1 82 k (by omega)
                    have e2 : ∀ k, ¬ k = 30 → M2.1 82 k = m2.1 82 k := fun k hk => by rw [← hM2]; exact wi_k (by omega)
                    have e3 : ∀ k, ¬ (15 ≤ k ∧ k ≤ 20) → m2.1 82 k = M.1 82 k := fun k hk => y1.1 82 k (by omega)
                    have e4 : ∀ k, ¬ k = 31 → M.1 82 k = m.1 82 k := fun k hk => by rw [← hM]; exact wi_k (by omega)
                    have hmn : mn e' = mn m := by
                      rw [y2.mn, ← hM2, show mn (dc_wi m2 82 30 (m2.1 82 30 + 1)) = mn m2 from by funext i k; exact wi_k (by omega), y1.mn, ← hM]
                      funext i k
                      exact wi_k (by omega)
                    obtain ⟨N3, sR3⟩ := NT.ap (m' := e') hv ha N2 (by rw [k2]; exact hK) t4 hmn (by rw [e1 21 (by omega), e2 21 (by omega), e3 21 (by omega), e4 21 (by omega)]) (by rw [e1 24 (by omega), e2 24 (by omega), e3 24 (by omega), e4 24 (by omega)]) (by rw [e1 30 (by omega), ← hM2, wi_s, e3 30 (by omega), e4 30 (by omega)]) (by rw [e1 31 (by omega), e2 31 (by omega), e3 31 (by omega), ← hM, wi_s, h0])
                    exact Or.inl ⟨(e.1 a 2, e.1 a 0), g2.s sR3 ⟨fun _ _ => rfl, fun _ => rfl⟩, by rw [sR3.2]; exact hn2, N3, rfl, rfl⟩
                  · exact Or.inr ⟨f, w, dd_X3_addPlace d1.2.2.2 d1 t4, d2⟩
          · rw [if_pos d2.nz] at h2
            cases h2
            rw [if_pos d2.nz] at h3
            have d3 := dd_X4_takeSign d1 t3
            exact Or.inr ⟨f, w, dd_X3_addPlace d3.2.2.2 d3 t4, de_X10_readLine_b129 d2 h3⟩
/-- behind the events that take: the token's number -/
theorem pl_99 {p : Int} {a : Nat} {K : Int32 × Int32} {F T : Int32} {c m e m1 e' : dc_M} (l : LV p a K F T c m) (hK : K.1.toInt < 20) (hs : (c.1 2 5).toInt = 2) (h1 : d_X4_readPlace_b99 2 F T c = some e) (h2 : d_X10_readPlace_b82 82 m = some m1) (h3 : d_X10_readLine_b108 82 m1 = some e') : LO p a e e' := by
  have ⟨g, hn, N, hk⟩ := l
  obtain ⟨q1, q2⟩ := g.2.1.num hs
  have q3 : (c.1 2 7 - 48).toInt = (c.1 2 7).toInt - 48 := by
    unfold fig at q1
    rw [Int32.toInt_sub, show (48 : Int32).toInt = 48 from rfl, sx_bm (by omega) (by omega)]
  unfold d_X4_readPlace_b99 at h1
  unfold d_X10_readPlace_b82 at h2
  rw [if_pos hs] at h1
  rw [if_neg (fun q => q (by rw [g.n2]; rfl)), ← q2] at h2
  by_cases hv : (c.1 2 7 - 48).toInt ≤ 1
  · rw [if_pos hv] at h1 h2
    unfold d_X10_readPlace_b102 at h2
    rw [if_neg (fun q => q (by rw [g.n2]; rfl)), ← q2] at h2
    by_cases h1' : (c.1 2 7 - 48).toInt = 1
    · rw [if_neg (fun q => q h1')] at h2
      have e1 : c.1 2 7 - 48 = 1 := Int32.toInt_inj.mp h1'
      rw [e1] at h1
      exact pl_132 (Or.inr rfl) l hK (by omega) rfl h1 h2 h3
    · rw [if_pos h1'] at h2
      unfold fig at q1
      have e1 : c.1 2 7 - 48 = 0 := Int32.toInt_inj.mp (show (c.1 2 7 - 48).toInt = 0 by omega)
      rw [e1] at h1
      exact pl_132 (Or.inl rfl) l hK (by omega) sl_0.symm h1 h2 h3
  · rw [if_neg hv, dc_let_eq] at h1 h2
    cases h1
    rw [fs_eq] at h2
    obtain ⟨f, w, d1, d2⟩ := g.rf (w := 3) (by decide) g.pl
    exact Or.inr ⟨f, w, d1, de_X10_readLine_b108 (de_X10_readPlace_b102 d2 h2) h3⟩
/-- no letter where an event must stand -/
theorem ev_nl {p : Int} {x1 : Int32} {c m e' : dc_M} (g : GV p c m) (hl : (d_X10_isLetter 82 m).toInt = 0) (h : d_X10_readEvent 82 x1 m = some e') : ∃ f v, dd f v (d_X4_refuse 2 2 (c.1 2 6) c) ∧ de f v e' := by
  unfold d_X10_readEvent at h
  rw [if_neg (fun q => q (by rw [g.n2]; rfl)), if_neg (fun q => q hl), dc_let_eq, fs_eq] at h
  obtain ⟨f, v, d1, d2⟩ := g.rf (w := 2) (by decide) g.pl
  exact ⟨f, v, d1, de_X10_readEvent_b24 d2 h⟩
/-- the events that take, from the second on -/
theorem pl_72 {p : Int} {a : Nat} {K : Int32 × Int32} {F T x3 x1 : Int32} {c m e m1 e' : dc_M} (l : LV p a K F T c m) (hK : K.1.toInt < 20) (hc : (cnt T 16 : Int) = x3.toInt + 1) (h0 : 0 ≤ x3.toInt) (hx : x1.toInt = 0 ↔ (m.1 82 19).toInt = 2) (h1 : d_X4_readPlace_l72 2 F T x3 c = some e) (h2 : d_X10_readPlace_l49 82 x1 m = some m1) (h3 : d_X10_readLine_b108 82 m1 = some e') : LO p a e e' := by
  unfold d_X4_readPlace_l72 at h1
  unfold d_X10_readPlace_l49 at h2
  refine dc_lp_s3 (s := (T, x3, c)) (t := (x1, m)) (fun (s : Int32 × Int32 × dc_M) (t : Int32 × dc_M) => LV p a K F s.1 s.2.2 t.2 ∧ (cnt s.1 16 : Int) = s.2.1.toInt + 1 ∧ 0 ≤ s.2.1.toInt ∧ (t.1.toInt = 0 ↔ (t.2.1 82 19).toInt = 2)) (fun e m1 => ∀ e', d_X10_readLine_b108 82 m1 = some e' → LO p a e e') (fun s t e m1 hI hf hg => ?_) ⟨l, hc, h0, hx⟩ h1 h2 e' h3
  obtain ⟨T, x3, c⟩ := s
  obtain ⟨x1, m⟩ := t
  obtain ⟨l, hc, h0, hx⟩ := hI
  have l : LV p a K F T c m := l
  have hc : (cnt T 16 : Int) = x3.toInt + 1 := hc
  have h0 : 0 ≤ x3.toInt := h0
  have hx : x1.toInt = 0 ↔ (m.1 82 19).toInt = 2 := hx
  have hcl := cnt_le (x := T) 16
  have ⟨g, hn, N, hk⟩ := l
  rw [dc_lp_eq] at hf hg
  have e5 : c.1 2 5 = m.1 82 19 := g.2.1.2.2.1
  have hf0 : d_X4_readPlace_l72s 2 F (T, x3, c) = d_X4_readPlace_l72b 2 F T x3 c := rfl
  have hg0 : d_X10_readPlace_l49s 82 (x1, m) = d_X10_readPlace_l49b 82 x1 m := rfl
  rw [hf0] at hf ⊢
  rw [hg0] at hg ⊢
  unfold d_X4_readPlace_l72b at hf ⊢
  unfold d_X10_readPlace_l49b at hg ⊢
  rw [if_neg (by omega)] at hf ⊢
  rw [if_neg (show ¬ ¬ (m.1 82 15).toInt = 0 from fun q => q (by rw [g.n2]; rfl))] at hg ⊢
  rcases tk.letter g.1 g.2.1 with ⟨l1, l2⟩ | ⟨l1, l2, l3, l4⟩
  · rw [if_pos l1] at hf
    refine Or.inr (fun e' h3 => ?_)
    cases hb : d_X4_readPlace_b99 2 F T c with
    | none => rw [hb] at hf; cases hf
    | some z =>
      rw [hb] at hf
      cases hf
      by_cases h2' : (c.1 2 5).toInt = 2
      · rw [if_pos (hx.mpr (by rw [← e5]; exact h2'))] at hg
        cases hb2 : d_X10_readPlace_b82 82 m with
        | none => rw [hb2] at hg; cases hg
        | some z2 =>
          rw [hb2] at hg
          cases hg
          exact pl_99 l hK h2' hb hb2 h3
      · rw [if_neg (fun q => h2' (by rw [e5]; exact hx.mp q))] at hg
        unfold d_X4_readPlace_b99 at hb
        rw [if_neg h2', dc_let_eq] at hb
        cases hb
        cases hr : d_X10_readEvent 82 0 m with
        | none => rw [hr] at hg; cases hg
        | some q1 =>
          rw [hr, Option.bind_some] at hg
          obtain ⟨f, v, d1, d2⟩ := ev_nl g l2 hr
          refine Or.inr ⟨f, v, d1, ?_⟩
          split at hg
          · exact de_X10_readLine_b108 (de_X10_readPlace_l49 (x1 := 0) d2 hg) h3
          · exact de_X10_readLine_b108 (de_X10_readPlace_l49 (x1 := 1) d2 hg) h3
  · rw [if_neg l1] at hf ⊢
    rw [if_neg (fun q => by have := hx.mp q; rw [← e5] at this; omega)] at hg ⊢
    cases hr1 : d_X4_readEvent 2 T c with
    | none => rw [hr1] at hf; cases hf
    | some z =>
      cases hr2 : d_X10_readEvent 82 0 m with
      | none => rw [hr2] at hg; cases hg
      | some q1 =>
        rw [hr1, Option.bind_some] at hf
        rw [hr2, Option.bind_some] at hg
        rw [Option.bind_some, Option.bind_some]
        rcases ev_sim l (x1 := 0) (by rw [if_pos (by decide)]) hr1 hr2 with ⟨ev, ⟨v0, v1⟩, hb, ho⟩ | ⟨f, v, d1, d2⟩
        · rcases ho with ⟨-, hbit, l'⟩ | ⟨hz, -⟩
          · left
            have hcn := cnt_or (x := T) (e := ev) ⟨v0, by omega⟩ hbit 16 (by omega)
            have hev := cl_n v0
            rw [if_pos (by omega), ← hb] at hcn
            have p1 : (x3 + 1).toInt = x3.toInt + 1 := i1 (by omega) (Int32.le_toInt _)
            by_cases hm : (q1.1 82 19).toInt = 2
            · rw [if_pos hm]
              exact ⟨_, _, rfl, rfl, l', by show (cnt (T ||| z.1) 16 : Int) = (x3 + 1).toInt + 1; omega, by show 0 ≤ (x3 + 1).toInt; omega, ⟨fun _ => hm, fun _ => rfl⟩⟩
            · rw [if_neg hm]
              exact ⟨_, _, rfl, rfl, l', by show (cnt (T ||| z.1) 16 : Int) = (x3 + 1).toInt + 1; omega, by show 0 ≤ (x3 + 1).toInt; omega, ⟨fun q => absurd q (show ¬ (1 : Int32).toInt = 0 by decide), fun q => absurd q hm⟩⟩
          · exact absurd rfl hz
        · refine Or.inr (fun e' h3 => Or.inr ⟨f, v, dd_X4_readPlace_l72 d1 hf, ?_⟩)
          split at hg
          · exact de_X10_readLine_b108 (de_X10_readPlace_l49 (x1 := 0) d2 hg) h3
          · exact de_X10_readLine_b108 (de_X10_readPlace_l49 (x1 := 1) d2 hg) h3
/-- from the sign > on -/
theorem pl_58 {p : Int} {a : Nat} {K : Int32 × Int32} {F : Int32} {c m e m1 e' : dc_M} (l : LV p a K F 0 c m) (hK : K.1.toInt < 20) (hs : ¬ (d_X4_isSign 2 62 c).toInt = 0) (h1 : d_X4_readPlace_b58 2 F c = some e) (h2 : d_X10_readPlace_b43 82 m = some m1) (h3 : d_X10_readLine_b108 82 m1 = some e') : LO p a e e' := by
  have ⟨g, hn, N, hk⟩ := l
  have n3 := ((g.2.1.sign 62).2 hs).1
  unfold d_X4_readPlace_b58 at h1
  unfold d_X10_readPlace_b43 at h2
  cases t1 : d_X4_takeSign 2 62 c with
  | none => rw [t1] at h1; cases h1
  | some c1 =>
    rw [t1, Option.bind_some] at h1
    cases t2 : d_X4_readEvent 2 0 c1 with
    | none => rw [t2] at h1; cases h1
    | some z =>
      rw [t2, Option.bind_some] at h1
      cases t3 : d_X10_next 82 m with
      | none => rw [t3] at h2; cases h2
      | some m2 =>
        rw [t3, Option.bind_some] at h2
        unfold d_X4_takeSign at t1
        rw [if_neg hs] at t1
        cases t4 : d_X4_take 2 c with
        | none => rw [t4] at t1; cases t1
        | some c4 =>
          rw [t4, Option.bind_some] at t1
          cases t1
          have h2' := h2
          unfold d_X10_readPlace_l49 at h2
          rw [dc_lp_eq] at h2
          have hg0 : d_X10_readPlace_l49s 82 (1, m2) = d_X10_readPlace_l49b 82 1 m2 := rfl
          rw [hg0] at h2
          unfold d_X10_readPlace_l49b at h2
          rcases l.take (by omega) t4 t3 with l1 | ⟨f, v, d1, d2⟩
          · rw [if_neg (fun q => q (by rw [l1.1.n2]; rfl)), if_neg (by decide)] at h2
            cases t5 : d_X10_readEvent 82 0 m2 with
            | none => rw [t5] at h2; cases h2
            | some q1 =>
              rw [t5, Option.bind_some] at h2
              rcases ev_sim l1 (x1 := 0) (by rw [if_pos (by decide)]) t2 t5 with ⟨ev, ⟨v0, v1⟩, hb, ho⟩ | ⟨f, v, d1, d2⟩
              · rcases ho with ⟨-, hbit, l'⟩ | ⟨hz, -⟩
                · have hcn := cnt_or (x := 0) (e := ev) ⟨v0, by omega⟩ hbit 16 (by omega)
                  have hev := cl_n v0
                  rw [if_pos (by omega), ← hb, cnt_0] at hcn
                  have z0 : (0 : Int32) ||| z.1 = z.1 := b32_ext (fun k hk => by rw [b32_or, b32_0, Bool.false_or])
                  rw [z0] at hcn l'
                  by_cases hm : (q1.1 82 19).toInt = 2
                  · rw [if_pos hm] at h2
                    exact pl_72 (x3 := 0) (x1 := 0) l' hK (by rw [hcn]; rfl) (by decide) ⟨fun _ => hm, fun _ => rfl⟩ h1 h2 h3
                  · rw [if_neg hm] at h2
                    exact pl_72 (x3 := 0) (x1 := 1) l' hK (by rw [hcn]; rfl) (by decide) ⟨fun q => absurd q (by decide), fun q => absurd q hm⟩ h1 h2 h3
                · exact absurd rfl hz
              · refine Or.inr ⟨f, v, dd_X4_readPlace_l72 d1 h1, ?_⟩
                split at h2
                · exact de_X10_readLine_b108 (de_X10_readPlace_l49 (x1 := 0) d2 h2) h3
                · exact de_X10_readLine_b108 (de_X10_readPlace_l49 (x1 := 1) d2 h2) h3
          · exact Or.inr ⟨f, v, dd_X4_readPlace_l72 (dd_X4_readEvent d1 t2) h1, de_X10_readLine_b108 (de_X10_readPlace_l49 d2 h2') h3⟩
/-- the events that feed -/
theorem pl_31 {p : Int} {a : Nat} {K : Int32 × Int32} {F x2 : Int32} {c m e m1 e' : dc_M} (l : LV p a K F 0 c m) (hK : K.1.toInt < 20) (hc : (cnt F 16 : Int) = x2.toInt) (h1 : d_X4_readPlace_l31 2 F x2 c = some e) (h2 : d_X10_readPlace_l19 82 m = some m1) (h3 : d_X10_readLine_b108 82 m1 = some e') : LO p a e e' := by
  unfold d_X4_readPlace_l31 at h1
  unfold d_X10_readPlace_l19 at h2
  refine dc_lp_s3 (s := (F, x2, c)) (t := m) (fun (s : Int32 × Int32 × dc_M) (t : dc_M) => LV p a K s.1 0 s.2.2 t ∧ (cnt s.1 16 : Int) = s.2.1.toInt) (fun e m1 => ∀ e', d_X10_readLine_b108 82 m1 = some e' → LO p a e e') (fun s t e m1 hI hf hg => ?_) ⟨l, hc⟩ h1 h2 e' h3
  obtain ⟨F, x2, c⟩ := s
  obtain ⟨l, hc⟩ := hI
  have l : LV p a K F 0 c t := l
  have hc : (cnt F 16 : Int) = x2.toInt := hc
  have hcl := cnt_le (x := F) 16
  have ⟨g, hn, N, hk⟩ := l
  rw [dc_lp_eq] at hf hg
  have hf0 : d_X4_readPlace_l31s 2 (F, x2, c) = d_X4_readPlace_l31b 2 F x2 c := rfl
  have hg0 : d_X10_readPlace_l19s 82 t = d_X10_readPlace_l19b 82 t := rfl
  rw [hf0] at hf ⊢
  rw [hg0] at hg ⊢
  unfold d_X4_readPlace_l31b at hf ⊢
  unfold d_X10_readPlace_l19b at hg ⊢
  rw [if_neg (by omega)] at hf ⊢
  rw [if_neg (show ¬ ¬ (t.1 82 15).toInt = 0 from fun q => q (by rw [g.n2]; rfl))] at hg ⊢
  have s62 := g.2.1.sign 62
  rcases tk.letter g.1 g.2.1 with ⟨l1, l2⟩ | ⟨l1, l2, l3, l4⟩
  · rw [if_pos l1] at hf
    refine Or.inr (fun e' h3 => ?_)
    cases hb : d_X4_readPlace_b58 2 F c with
    | none => rw [hb] at hf; cases hf
    | some z =>
      rw [hb] at hf
      cases hf
      by_cases h62 : (d_X4_isSign 2 62 c).toInt = 0
      · rw [if_neg (fun q => q (s62.1.mp h62))] at hg
        cases hr : d_X10_readEvent 82 1 t with
        | none => rw [hr] at hg; cases hg
        | some q1 =>
          rw [hr, Option.bind_some] at hg
          obtain ⟨f, v, d1, d2⟩ := ev_nl g l2 hr
          unfold d_X4_readPlace_b58 at hb
          cases t1 : d_X4_takeSign 2 62 c with
          | none => rw [t1] at hb; cases hb
          | some c1 =>
            rw [t1, Option.bind_some] at hb
            unfold d_X4_takeSign at t1
            rw [if_pos h62, dc_let_eq] at t1
            cases t1
            cases t2 : d_X4_readEvent 2 0 (d_X4_refuse 2 2 (c.1 2 6) c) with
            | none => rw [t2] at hb; cases hb
            | some z2 =>
              rw [t2, Option.bind_some] at hb
              exact Or.inr ⟨f, v, dd_X4_readPlace_l72 (dd_X4_readEvent d1 t2) hb, de_X10_readLine_b108 (de_X10_readPlace_l19 d2 hg) h3⟩
      · rw [if_pos (fun q => h62 (s62.1.mpr q))] at hg
        cases hb2 : d_X10_readPlace_b43 82 t with
        | none => rw [hb2] at hg; cases hg
        | some z2 =>
          rw [hb2] at hg
          cases hg
          exact pl_58 l hK h62 hb hb2 h3
  · rw [if_neg l1] at hf ⊢
    have h62 : (d_X4_isSign 2 62 c).toInt = 0 := Classical.byContradiction (fun q => by have := (s62.2 q).1; omega)
    rw [if_neg (fun q => q (s62.1.mp h62))] at hg ⊢
    cases hr1 : d_X4_readEvent 2 F c with
    | none => rw [hr1] at hf; cases hf
    | some z =>
      cases hr2 : d_X10_readEvent 82 1 t with
      | none => rw [hr2] at hg; cases hg
      | some q1 =>
        rw [hr1, Option.bind_some] at hf
        rw [hr2, Option.bind_some] at hg
        rw [Option.bind_some, Option.bind_some]
        rcases ev_sim l (x1 := 1) (by rw [if_neg (by decide)]) hr1 hr2 with ⟨ev, ⟨v0, v1⟩, hb, ho⟩ | ⟨f, v, d1, d2⟩
        · rcases ho with ⟨hz, -⟩ | ⟨-, hbit, l'⟩
          · exact absurd hz (by decide)
          · left
            have hcn := cnt_or (x := F) (e := ev) ⟨v0, by omega⟩ hbit 16 (by omega)
            have hev := cl_n v0
            rw [if_pos (by omega), ← hb] at hcn
            have p1 : (x2 + 1).toInt = x2.toInt + 1 := i1 (by omega) (Int32.le_toInt _)
            exact ⟨_, _, rfl, rfl, l', by show (cnt (F ||| z.1) 16 : Int) = (x2 + 1).toInt; omega⟩
        · exact Or.inr (fun e' h3 => Or.inr ⟨f, v, dd_X4_readPlace_l31 d1 hf, de_X10_readLine_b108 (de_X10_readPlace_l19 d2 hg) h3⟩)
theorem pl_sim {p : Int} {a : Nat} {K : Int32 × Int32} {c m e m1 e' : dc_M} (l : LV p a K 0 0 c m) (h1 : d_X4_readPlace 2 c = some e) (h2 : d_X10_readPlace 82 m = some m1) (h3 : d_X10_readLine_b108 82 m1 = some e') : LO (c.1 2 4).toInt a e e' := by
  have ⟨g, hn, N, hk⟩ := l
  have p1 : c.1 a 2 = m.1 82 30 := N.2.2.2.1.1
  have p3 : (c.1 a 2).toInt ≤ 20 := N.2.2.2.1.2.2.1
  unfold d_X4_readPlace at h1
  unfold d_X10_readPlace at h2
  rw [hn] at h1
  rw [← p1] at h2
  by_cases hp : (c.1 a 2).toInt < 20
  · rw [if_pos hp] at h1
    rw [if_pos (by omega)] at h2
    unfold d_X10_readPlace_b15 at h2
    cases t1 : d_X4_take 2 c with
    | none => rw [t1] at h1; cases h1
    | some c1 =>
      cases t2 : d_X10_next 82 m with
      | none => rw [t2] at h2; cases h2
      | some m2 =>
        rw [t1, Option.bind_some] at h1
        rw [t2, Option.bind_some] at h2
        rcases l.take1 t1 t2 with l1 | ⟨f, v, d1, d2⟩
        · exact pl_31 l1 (by rw [← hk.1]; exact hp) (by rw [cnt_0]; rfl) h1 h2 h3
        · exact Or.inr ⟨f, v, dd_X4_readPlace_l31 d1 h1, de_X10_readLine_b108 (de_X10_readPlace_l19 d2 h2) h3⟩
  · rw [if_neg hp, dc_let_eq] at h1
    cases h1
    rw [if_neg (fun q => q (by omega)), dc_let_eq, fs_eq] at h2
    obtain ⟨f, v, d1, d2⟩ := g.rf (w := 6) (by decide) g.pl
    exact Or.inr ⟨f, v, d1, de_X10_readLine_b108 (de_X10_readPlace_b15 d2 h2) h3⟩
/-! wires -/
def awM (a : Nat) (c : dc_M) (x y : Int32) : dc_M := dc_wi (dc_wi (dc_wi c (a + 1) (c.1 a 0).toNatClampNeg x) (a + 2) (c.1 a 0).toNatClampNeg y) a 0 (c.1 a 0 + 1)
theorem aw_eq {a : Nat} {c : dc_M} {x y : Int32} (ha : a = 41 ∨ a = 52) (h : (c.1 a 0).toInt < 6) : d_X3_addWire a x y c = (c.1 a 0, awM a c x y) := by
  rcases ha with rfl | rfl
  · unfold d_X3_addWire
    rw [if_pos h]
    rfl
  · unfold d_X3_addWire
    rw [if_pos h]
    rfl
def nwM (m : dc_M) (x y : Int32) : dc_M := dc_wi (dc_wi (dc_wi m 92 (m.1 82 21).toNatClampNeg x) 93 (m.1 82 21).toNatClampNeg y) 82 21 (m.1 82 21 + 1)
theorem NT.aw {a : Nat} {F T : Int32} {c m : dc_M} {x y : Int32} (h : NT a F T c m) (hW : (c.1 a 0).toInt < 6) (hy : 0 ≤ y.toInt) : NT a F T (awM a c x y) (nwM m x y) := by
  obtain ⟨⟨w1, w2, w3, w4⟩, ⟨e1, e2, e3, e4⟩, s, ⟨p1, p2, p3, p4⟩, b⟩ := h
  have w1' : c.1 a 0 = m.1 82 21 := w1
  have w2' : 0 ≤ (c.1 a 0).toInt := w2
  have hn := cl_n w2'
  have r : ∀ i k, ¬ (i = 0 ∧ k = 0) → ¬ ((i = 1 ∨ i = 2) ∧ k = (c.1 a 0).toNatClampNeg) → cn a (awM a c x y) i k = cn a c i k := fun i k h1 h2 => by
    show (awM a c x y).1 (a + i) k = c.1 (a + i) k
    unfold awM
    rw [wi_k (by omega), wi_k (by omega), wi_k (by omega)]
  have r0 : cn a (awM a c x y) 0 0 = cn a c 0 0 + 1 := wi_s
  have r1 : cn a (awM a c x y) 1 (c.1 a 0).toNatClampNeg = x := by
    show (awM a c x y).1 (a + 1) _ = x
    unfold awM
    rw [wi_k (by omega), wi_k (by omega)]
    exact wi_s
  have r2 : cn a (awM a c x y) 2 (c.1 a 0).toNatClampNeg = y := by
    show (awM a c x y).1 (a + 2) _ = y
    unfold awM
    rw [wi_k (by omega)]
    exact wi_s
  have q : ∀ i k, ¬ ((i = 0 ∨ i = 1) ∧ k = (c.1 a 0).toNatClampNeg) → mn (nwM m x y) i k = mn m i k := fun i k h => by
    show (nwM m x y).1 (92 + i) k = m.1 (92 + i) k
    unfold nwM
    rw [← w1', wi_k (by omega), wi_k (by omega), wi_k (by omega)]
  have q0 : mn (nwM m x y) 0 (c.1 a 0).toNatClampNeg = x := by
    show (nwM m x y).1 92 _ = x
    unfold nwM
    rw [← w1', wi_k (by omega), wi_k (by omega)]
    exact wi_s
  have q1 : mn (nwM m x y) 1 (c.1 a 0).toNatClampNeg = y := by
    show (nwM m x y).1 93 _ = y
    unfold nwM
    rw [← w1', wi_k (by omega)]
    exact wi_s
  have u21 : (nwM m x y).1 82 21 = m.1 82 21 + 1 := wi_s
  have u : ∀ k, k ≠ 21 → (nwM m x y).1 82 k = m.1 82 k := fun k h => by
    unfold nwM
    rw [wi_k (by omega), wi_k (by omega), wi_k (by omega)]
  unfold NT
  rw [u21, u 24 (by decide), u 30 (by decide), u 31 (by decide)]
  have hW' : (cn a c 0 0).toInt < 6 := hW
  have hn' : (((c.1 a 0).toNatClampNeg : Nat) : Int) = (cn a c 0 0).toInt := hn
  generalize (c.1 a 0).toNatClampNeg = W at *
  generalize cn a (awM a c x y) = n' at *
  generalize mn (nwM m x y) = w' at *
  generalize cn a c = n at *
  have j1 : (n 0 0 + 1).toInt = (n 0 0).toInt + 1 := i1 (by omega) (Int32.le_toInt _)
  have z1 := r 0 1 (by omega) (by omega)
  have z2 := r 0 2 (by omega) (by omega)
  have z13 := r 0 13 (by omega) (by omega)
  have g : ∀ i, 3 ≤ i → n' i = n i := fun i hi => funext (fun k => r i k (by omega) (by omega))
  have gw : ∀ i, 2 ≤ i → w' i = mn m i := fun i hi => funext (fun k => q i k (by omega))
  refine ⟨⟨by rw [r0, w1], by rw [r0, j1]; omega, by rw [r0, j1]; omega, fun j hj => ?_⟩, ⟨by rw [z1]; exact e1, by rw [z1]; exact e2, by rw [z1]; exact e3, fun j hj => ?_⟩, fun k h1 h2 => s k (by rw [z1] at h1; exact h1) h2, ⟨by rw [z2]; exact p1, by rw [z2]; exact p2, by rw [z2]; exact p3, by rw [z13]; exact p4⟩, fun p hp k hk => ?_⟩
  · rw [r0, j1] at hj
    by_cases hjW : j = W
    · rw [hjW, r1, r2, q0, q1]
      exact ⟨rfl, rfl, hy⟩
    · rw [r 1 j (by omega) (by omega), r 2 j (by omega) (by omega), q 0 j (by omega), q 1 j (by omega)]
      exact w4 j (by omega)
  · rw [z1] at hj
    rw [g 3 (by omega), g 4 (by omega), g 5 (by omega), g 6 (by omega), g 7 (by omega), g 8 (by omega), gw 2 (by omega), gw 3 (by omega), gw 4 (by omega), gw 5 (by omega), gw 6 (by omega), z2]
    obtain ⟨a1, a2, a3, a4, aw, a5⟩ := e4 j hj
    exact ⟨a1, a2, a3, a4, ⟨aw.1, by rw [r0, j1]; omega⟩, a5⟩
  · rw [z2] at hp
    rw [g 9 (by omega), g 10 (by omega), g 6 (by omega), g 7 (by omega), z1]
    exact b p hp k hk
theorem wr_sim {p : Int} {a : Nat} {K : Int32 × Int32} {x : Int32} {c m e m1 e' : dc_M} (hx0 : 0 ≤ x.toInt) (l : LV p a K 0 0 c m) (h1 : d_X4_readWire 2 x c = some e) (h2 : d_X10_readWire 82 x m = some m1) (h3 : d_X10_readLine_b108 82 m1 = some e') : LO (c.1 2 4).toInt a e e' := by
  have ⟨g, hn, N, hk⟩ := l
  have ha := l.ha
  have w1 : c.1 a 0 = m.1 82 21 := N.1.1
  have w2 : 0 ≤ (c.1 a 0).toInt := N.1.2.1
  have w3 : (c.1 a 0).toInt ≤ 6 := N.1.2.2.1
  unfold d_X4_readWire at h1
  unfold d_X10_readWire at h2
  rw [hn] at h1
  rw [← w1] at h2
  by_cases hp : (c.1 a 0).toInt < 6
  · rw [if_pos hp] at h1
    rw [if_pos (by omega)] at h2
    unfold d_X10_readWire_b15 at h2
    cases t1 : d_X4_take 2 c with
    | none => rw [t1] at h1; cases h1
    | some c1 =>
      cases t2 : d_X10_next 82 m with
      | none => rw [t2] at h2; cases h2
      | some m2 =>
        rw [t1, Option.bind_some] at h1
        rw [t2, Option.bind_some] at h2
        rcases g.take1 t1 t2 with ⟨g1, x1, y1⟩ | ⟨f, v, d1, d2⟩
        · have hn1 : c1.2.2.1 2 8 = a := by rw [x1.2]; exact hn
          have N1 : NT a 0 0 c1 m2 := N.fr ha x1 y1
          have hp1 : (c1.1 a 0).toInt < 6 := by rw [x1.1 a 0 (by omega)]; exact hp
          rw [if_neg (fun q => q (by rw [g1.n2]; rfl))] at h2
          rcases tk.letter g1.1 g1.2.1 with ⟨l1, l2⟩ | ⟨l1, l2, l3, l4⟩
          · rw [if_neg (fun q => q l1), dc_let_eq] at h1
            cases h1
            rw [if_neg (fun q => q l2), dc_let_eq, fs_eq] at h2
            obtain ⟨f, v, d1, d2⟩ := g1.rf (w := 2) (by decide) g1.pl
            exact Or.inr ⟨f, v, d1, de_X10_readLine_b108 (de_X10_readWire_b68 d2 h2) h3⟩
          · rw [if_pos l1, hn1, l4] at h1
            rw [if_pos l2] at h2
            unfold d_X10_readWire_b41 at h2
            rw [if_neg (fun q => q (by rw [g1.n2]; rfl))] at h2
            cases hw : d_X3_wireCalled a (m2.1 82 20 - 1) c1 with
            | none => rw [hw] at h1; cases h1
            | some w =>
              cases hw' : d_X10_wireAt 82 (m2.1 82 20 - 1) m2 with
              | none => rw [hw'] at h2; cases h2
              | some w' =>
                rw [hw, Option.bind_some] at h1
                rw [hw', Option.bind_some] at h2
                obtain ⟨rfl, hq⟩ := wc_sim N1.1 hw hw'
                rcases hq with rfl | ⟨q0, q1⟩
                · rw [if_pos (by decide), dc_let_eq, aw_eq ha hp1] at h1
                  rw [if_pos (by decide)] at h2
                  unfold d_X10_readWire_b68 at h2
                  rw [if_pos (by rw [g1.n2]; decide)] at h2
                  have h1 : (d_X4_take 2 (awM a c1 (m2.1 82 20 - 1) x)).bind (fun q4 => (d_X4_takeSign 2 59 q4).bind (fun q5 => some q5)) = some e := h1
                  have h2 : (d_X10_next 82 (nwM m2 (m2.1 82 20 - 1) x)).bind (fun q1 => some q1) = some m1 := h2
                  have gA : GV (c.1 2 4).toInt (awM a c1 (m2.1 82 20 - 1) x) (nwM m2 (m2.1 82 20 - 1) x) := g1.s ⟨fun b k hb => by unfold awM; rw [wi_k (by omega), wi_k (by omega), wi_k (by omega)], rfl⟩ ⟨fun k hk => by unfold nwM; rw [wi_k (by omega), wi_k (by omega), wi_k (by omega)], fun k => by unfold nwM; rw [wi_k (by omega), wi_k (by omega), wi_k (by omega)]⟩
                  have NA := N1.aw (x := m2.1 82 20 - 1) (y := x) hp1 hx0
                  have hsA : ((awM a c1 (m2.1 82 20 - 1) x).1 2 5).toInt ≠ 0 := by
                    unfold awM
                    rw [wi_k (by omega), wi_k (by omega), wi_k (by omega)]
                    omega
                  have hnA : (awM a c1 (m2.1 82 20 - 1) x).2.2.1 2 8 = a := hn1
                  generalize awM a c1 (m2.1 82 20 - 1) x = cA at *
                  generalize nwM m2 (m2.1 82 20 - 1) x = mA at *
                  cases t3 : d_X4_take 2 cA with
                  | none => rw [t3] at h1; cases h1
                  | some c3 =>
                    cases t4 : d_X10_next 82 mA with
                    | none => rw [t4] at h2; cases h2
                    | some m3 =>
                      rw [t3, Option.bind_some] at h1
                      rw [t4, Option.bind_some] at h2
                      cases h2
                      cases t5 : d_X4_takeSign 2 59 c3 with
                      | none => rw [t5] at h1; cases h1
                      | some c5 =>
                        rw [t5, Option.bind_some] at h1
                        cases h1
                        unfold d_X10_readLine_b108 at h3
                        rcases LV.take (K := (cA.1 a 2, cA.1 a 0)) ⟨gA, hnA, NA, rfl, rfl⟩ hsA t3 t4 with l3 | ⟨f, v, d1, d2⟩
                        · rw [if_neg (fun q => q (by rw [l3.1.n2]; rfl))] at h3
                          have s59 := l3.1.2.1.sign 59
                          unfold d_X4_takeSign at t5
                          by_cases y : (d_X4_isSign 2 59 c3).toInt = 0
                          · rw [if_pos y, dc_let_eq] at t5
                            cases t5
                            rw [if_neg (fun q => q (s59.1.mp y)), dc_let_eq, fs_eq] at h3
                            obtain ⟨f, v, d1, d2⟩ := l3.1.rf (w := 2) (by decide) l3.1.pl
                            exact Or.inr ⟨f, v, d1, de_X10_readLine_b129 d2 h3⟩
                          · rw [if_neg y] at t5
                            rw [if_pos (fun q => y (s59.1.mpr q))] at h3
                            have n3 := (s59.2 y).1
                            unfold d_X10_readLine_b129 at h3
                            cases t6 : d_X4_take 2 c3 with
                            | none => rw [t6] at t5; cases t5
                            | some c6 =>
                              cases t7 : d_X10_next 82 m1 with
                              | none => rw [t7] at h3; cases h3
                              | some m7 =>
                                rw [t6, Option.bind_some] at t5
                                rw [t7, Option.bind_some] at h3
                                cases t5
                                cases h3
                                rcases l3.take (by omega) t6 t7 with l6 | d
                                · exact Or.inl ⟨_, l6⟩
                                · exact Or.inr d
                        · rw [if_pos d2.nz] at h3
                          exact Or.inr ⟨f, v, dd_X4_takeSign d1 t5, de_X10_readLine_b129 d2 h3⟩
                · rw [if_neg (by omega), dc_let_eq] at h1
                  cases h1
                  rw [if_neg (by omega), dc_let_eq, fs_eq] at h2
                  obtain ⟨f, v, d1, d2⟩ := g1.rf (w := 4) (by decide) g1.pl
                  exact Or.inr ⟨f, v, d1, de_X10_readLine_b108 (de_X10_readWire_b68 d2 h2) h3⟩
        · rw [if_pos d2.nz] at h2
          refine Or.inr ⟨f, v, ?_, de_X10_readLine_b108 (de_X10_readWire_b41 d2 h2) h3⟩
          split at h1
          · cases t3 : d_X3_wireCalled (c1.2.2.1 2 8) (c1.1 2 7 - 97) c1 with
            | none => rw [t3] at h1; cases h1
            | some q2 =>
              rw [t3, Option.bind_some] at h1
              split at h1
              · rw [dc_let_eq] at h1
                cases t4 : d_X4_take 2 (d_X3_addWire (c1.2.2.1 2 8) (c1.1 2 7 - 97) x c1).2 with
                | none => rw [t4] at h1; cases h1
                | some c4 =>
                  rw [t4, Option.bind_some] at h1
                  cases t5 : d_X4_takeSign 2 59 c4 with
                  | none => rw [t5] at h1; cases h1
                  | some c5 =>
                    rw [t5, Option.bind_some] at h1
                    cases h1
                    exact dd_X4_takeSign (dd_take (dd_X3_addWire d1.2.2.2 d1) t4) t5
              · rw [dc_let_eq] at h1
                cases h1
                exact dd_refuse d1
          · rw [dc_let_eq] at h1
            cases h1
            exact dd_refuse d1
  · rw [if_neg hp, dc_let_eq] at h1
    cases h1
    rw [if_neg (fun q => q (by omega)), dc_let_eq, fs_eq] at h2
    obtain ⟨f, v, d1, d2⟩ := g.rf (w := 6) (by decide) g.pl
    exact Or.inr ⟨f, v, d1, de_X10_readLine_b108 (de_X10_readWire_b15 d2 h2) h3⟩
/-! lines -/
theorem ln_b67 {m e' : dc_M} (h : d_X10_readLine_b67 82 m = some e') : ∃ m1, d_X10_readWire 82 (if (m.1 82 20).toInt = 302 then 0 else if (m.1 82 20).toInt = 16052 then 1 else 2) m = some m1 ∧ d_X10_readLine_b108 82 m1 = some e' := by
  unfold d_X10_readLine_b67 d_X10_readLine_b97 at h
  by_cases h1 : (m.1 82 20).toInt = 302
  · rw [if_neg (fun q => q h1)] at h
    rw [if_pos h1]
    cases hr : d_X10_readWire 82 0 m with
    | none => rw [hr] at h; cases h
    | some z => rw [hr, Option.bind_some] at h; exact ⟨z, rfl, h⟩
  · rw [if_pos h1] at h
    rw [if_neg h1]
    by_cases h2 : (m.1 82 20).toInt = 16052
    · rw [if_neg (fun q => q h2)] at h
      rw [if_pos h2]
      cases hr : d_X10_readWire 82 1 m with
      | none => rw [hr] at h; cases h
      | some z => rw [hr, Option.bind_some] at h; exact ⟨z, rfl, h⟩
    · rw [if_pos h2] at h
      rw [if_neg h2]
      cases hr : d_X10_readWire 82 2 m with
      | none => rw [hr] at h; cases h
      | some z => rw [hr, Option.bind_some] at h; exact ⟨z, rfl, h⟩
theorem ln_sim {p : Int} {a : Nat} {K : Int32 × Int32} {c m e e' : dc_M} (l : LV p a K 0 0 c m) (h1 : d_X4_readLine 2 c = some e) (h2 : d_X10_readLine 82 m = some e') : LO (c.1 2 4).toInt a e e' := by
  have ⟨g, hn, N, hk⟩ := l
  have e5 : c.1 2 5 = m.1 82 19 := g.2.1.2.2.1
  unfold d_X4_readLine at h1
  cases i1' : d_X4_isWord 2 1 c with
  | none => rw [i1'] at h1; cases h1
  | some r1 =>
    rw [i1', Option.bind_some] at h1
    have w1 := iw_1 g.1 g.2.1 i1'
    have rfz : (m.1 82 15).toInt = 0 := by rw [g.n2]; rfl
    have bad : ∀ (h : d_X10_readLine_b108 82 (d_X10_failsAt 82 2 (m.1 82 18) m) = some e') (h1 : some (d_X4_refuse 2 2 (c.1 2 6) c) = some e), LO (c.1 2 4).toInt a e e' := fun h h1 => by
      cases h1
      obtain ⟨f, v, d1, d2⟩ := g.rf (w := 2) (by decide) g.pl
      exact Or.inr ⟨f, v, d1, de_X10_readLine_b108 d2 h⟩
    unfold d_X10_readLine at h2
    rw [← e5] at h2
    unfold d_X10_readLine_b13 at h2
    by_cases n1 : (c.1 2 5).toInt = 1
    · rw [if_neg (fun q => q n1), if_neg (by decide)] at h2
      by_cases v4 : (m.1 82 20).toInt = 17171557
      · rw [if_neg (fun q => q v4)] at h2
        rw [if_pos (w1.mpr (fun q => by omega))] at h1
        cases i2 : d_X4_isWord 2 2 c with
        | none => rw [i2] at h1; cases h1
        | some r2 =>
          rw [i2, Option.bind_some, if_pos ((iw_2 g.1 g.2.1 i2).mpr (fun q => by omega))] at h1
          cases i3 : d_X4_isWord 2 3 c with
          | none => rw [i3] at h1; cases h1
          | some r3 =>
            rw [i3, Option.bind_some, if_pos ((iw_3 g.1 g.2.1 i3).mpr (fun q => by omega))] at h1
            cases i4 : d_X4_isWord 2 4 c with
            | none => rw [i4] at h1; cases h1
            | some r4 =>
              rw [i4, Option.bind_some, if_neg (fun q => ((iw_4 g.1 g.2.1 i4).mp q) ⟨n1, v4⟩)] at h1
              cases hr : d_X4_readPlace 2 c with
              | none => rw [hr] at h1; cases h1
              | some z =>
                cases hr2 : d_X10_readPlace 82 m with
                | none => rw [hr2] at h2; cases h2
                | some z2 =>
                  rw [hr, Option.bind_some] at h1
                  rw [hr2, Option.bind_some] at h2
                  cases h1
                  exact pl_sim l hr hr2 h2
      rw [if_pos v4] at h2
      unfold d_X10_readLine_b34 at h2
      rw [if_neg (by decide)] at h2
      by_cases v1 : (m.1 82 20).toInt = 302
      · rw [if_neg (fun q => (w1.mp q) ⟨n1, v1⟩)] at h1
        rw [if_pos v1] at h2
        obtain ⟨m1, g1, g2⟩ := ln_b67 h2
        rw [if_pos v1] at g1
        cases hr : d_X4_readWire 2 0 c with
        | none => rw [hr] at h1; cases h1
        | some z => rw [hr, Option.bind_some] at h1; cases h1; exact wr_sim (by decide) l hr g1 g2
      rw [if_pos (w1.mpr (fun q => v1 q.2))] at h1
      rw [if_neg v1] at h2
      cases i2 : d_X4_isWord 2 2 c with
      | none => rw [i2] at h1; cases h1
      | some r2 =>
        rw [i2, Option.bind_some] at h1
        have w2 := iw_2 g.1 g.2.1 i2
        by_cases v2 : (m.1 82 20).toInt = 16052
        · rw [if_neg (fun q => (w2.mp q) ⟨n1, v2⟩)] at h1
          rw [if_pos v2] at h2
          obtain ⟨m1, g1, g2⟩ := ln_b67 h2
          rw [if_neg v1, if_pos v2] at g1
          cases hr : d_X4_readWire 2 1 c with
          | none => rw [hr] at h1; cases h1
          | some z => rw [hr, Option.bind_some] at h1; cases h1; exact wr_sim (by decide) l hr g1 g2
        rw [if_pos (w2.mpr (fun q => v2 q.2))] at h1
        rw [if_neg v2] at h2
        cases i3 : d_X4_isWord 2 3 c with
        | none => rw [i3] at h1; cases h1
        | some r3 =>
          rw [i3, Option.bind_some] at h1
          have w3 := iw_3 g.1 g.2.1 i3
          by_cases v3 : (m.1 82 20).toInt = 9910450
          · rw [if_neg (fun q => (w3.mp q) ⟨n1, v3⟩)] at h1
            rw [if_neg (fun q => q v3)] at h2
            obtain ⟨m1, g1, g2⟩ := ln_b67 h2
            rw [if_neg v1, if_neg v2] at g1
            cases hr : d_X4_readWire 2 2 c with
            | none => rw [hr] at h1; cases h1
            | some z => rw [hr, Option.bind_some] at h1; cases h1; exact wr_sim (by decide) l hr g1 g2
          rw [if_pos (w3.mpr (fun q => v3 q.2))] at h1
          rw [if_pos v3, dc_let_eq, fs_eq] at h2
          cases i4 : d_X4_isWord 2 4 c with
          | none => rw [i4] at h1; cases h1
          | some r4 =>
            rw [i4, Option.bind_some, if_pos ((iw_4 g.1 g.2.1 i4).mpr (fun q => v4 q.2)), dc_let_eq] at h1
            exact bad h2 h1
    · rw [if_pos n1, if_pos (by decide)] at h2
      unfold d_X10_readLine_b34 at h2
      rw [if_pos (by decide), dc_let_eq, fs_eq] at h2
      rw [if_pos (w1.mpr (fun q => n1 q.1))] at h1
      cases i2 : d_X4_isWord 2 2 c with
      | none => rw [i2] at h1; cases h1
      | some r2 =>
        rw [i2, Option.bind_some, if_pos ((iw_2 g.1 g.2.1 i2).mpr (fun q => n1 q.1))] at h1
        cases i3 : d_X4_isWord 2 3 c with
        | none => rw [i3] at h1; cases h1
        | some r3 =>
          rw [i3, Option.bind_some, if_pos ((iw_3 g.1 g.2.1 i3).mpr (fun q => n1 q.1))] at h1
          cases i4 : d_X4_isWord 2 4 c with
          | none => rw [i4] at h1; cases h1
          | some r4 =>
            rw [i4, Option.bind_some, if_pos ((iw_4 g.1 g.2.1 i4).mpr (fun q => n1 q.1)), dc_let_eq] at h1
            exact bad h2 h1
