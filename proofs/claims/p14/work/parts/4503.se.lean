/-! ===== states: a state's events, on both sides ===== -/
def FC (x : Nat) (c0 c : dc_M) : Prop := (∀ b k, ¬ (x ≤ b ∧ b ≤ x + 7) → c.1 b k = c0.1 b k) ∧ c.2 = c0.2
def FM (m0 m : dc_M) : Prop := (∀ b k, ¬ (b = 82 ∧ (k = 32 ∨ k = 33 ∨ k = 37)) → ¬ (99 ≤ b ∧ b ≤ 102) → m.1 b k = m0.1 b k) ∧ m.2 = m0.2
theorem FC.wi {x b k : Nat} {v : Int32} {c0 c : dc_M} (h : FC x c0 c) (hb : x ≤ b ∧ b ≤ x + 7) : FC x c0 (dc_wi c b k v) := ⟨fun b' j hj => (wi_k (by omega)).trans (h.1 b' j hj), h.2⟩
theorem FM.wi {b k : Nat} {v : Int32} {m0 m : dc_M} (h : FM m0 m) (hb : (b = 82 ∧ (k = 32 ∨ k = 33 ∨ k = 37)) ∨ (99 ≤ b ∧ b ≤ 102)) : FM m0 (dc_wi m b k v) := ⟨fun b' j h1 h2 => (wi_k (by omega)).trans (h.1 b' j h1 h2), h.2⟩
def NL (a : Nat) (c m : dc_M) : Prop := c.1 a 1 = m.1 82 3 ∧ (0 ≤ (c.1 a 1).toInt ∧ (c.1 a 1).toInt ≤ 16) ∧ (∀ k : Nat, (k : Int) < (c.1 a 1).toInt → c.1 (a + 6) k = m.1 88 k ∧ c.1 (a + 7) k = m.1 89 k) ∧ c.1 a 13 = m.1 82 11
def XS3 (x a : Nat) (c0 m0 c m : dc_M) (n s e : Nat) : Prop := (1 ≤ n ∧ n ≤ 200) ∧ (c.1 x 0).toInt = n ∧ m.1 82 32 = c.1 x 0 ∧ c.1 x 1 = 0 ∧ m.1 82 33 = 1 ∧ XQ (c0.1 a 1).toInt (c0.1 (a + 3)) (c.1 (x + 1)) (m.1 99) (c.1 (x + 6)) (m.1 100) (c.1 (x + 5)) (c.1 (x + 3)) n s e ∧ RW (c0.1 a 1).toInt (c0.1 (a + 3)) (m.1 100) (c.1 (x + 2)) (c.1 (x + 4)) (c.1 x 2) s ∧ FC x c0 c ∧ FM m0 m
def XF (x : Nat) (c0 m0 c m : dc_M) (v : Int32) : Prop := c.1 x 1 = v ∧ (v = -2 ∨ v = -6) ∧ m.1 82 33 = v ∧ (0 ≤ (m.1 82 32).toInt ∧ (m.1 82 32).toInt ≤ 200) ∧ FC x c0 c ∧ FM m0 m
theorem wi_f {m : dc_M} {a k b : Nat} {v : Int32} (h : b ≠ a) : (dc_wi m a k v).1 b = m.1 b := funext (fun _ => wi_k (by omega))
theorem upd_upd {f : Nat → Int32} {j : Nat} {x y : Int32} : upd (upd f j x) j y = upd f j y := by
  funext k
  by_cases h : k = j
  · rw [h, upd_s, upd_s]
  · rw [upd_n h, upd_n h, upd_n h]
theorem ix_1 {s e : Int32} {S k : Nat} (hs : s.toInt = S) (h2 : S < 200) (he : e.toInt = k) (h3 : k < 16) : (s * 16 + e).toNatClampNeg = 16 * S + k := by
  have e1 : (s * 16).toInt = s.toInt * 16 := by rw [Int32.toInt_mul, show (16 : Int32).toInt = 16 from rfl, sx_bm (by omega) (by omega)]
  have e2 : (s * 16 + e).toInt = s.toInt * 16 + e.toInt := by rw [Int32.toInt_add, e1, sx_bm (by omega) (by omega)]
  have := cl_n (x := s * 16 + e) (by omega)
  omega
theorem ix_2 {s e : Int32} {S k : Nat} (hs : s.toInt = S) (h2 : S < 200) (he : e.toInt = k) (h3 : k < 16) : (16 * s + e).toNatClampNeg = 16 * S + k := by
  have e1 : (16 * s).toInt = 16 * s.toInt := by rw [Int32.toInt_mul, show (16 : Int32).toInt = 16 from rfl, sx_bm (by omega) (by omega)]
  have e2 : (16 * s + e).toInt = 16 * s.toInt + e.toInt := by rw [Int32.toInt_add, e1, sx_bm (by omega) (by omega)]
  have := cl_n (x := 16 * s + e) (by omega)
  omega
theorem rd_eq {a : Nat} {e v : Int32} {c M : dc_M} (h : c.1 (a + 6) e.toNatClampNeg = M.1 88 e.toNatClampNeg) : d_X3_isReady a v e c = d_X10_isReady 82 e v M := by
  unfold d_X3_isReady d_X10_isReady
  rw [show 82 + 6 = 88 from rfl, h]
theorem un_eq {a : Nat} {e v : Int32} {c M : dc_M} (h : c.1 (a + 6) e.toNatClampNeg = M.1 88 e.toNatClampNeg) (h2 : c.1 (a + 7) e.toNatClampNeg = M.1 89 e.toNatClampNeg) : d_X3_isUnsafe a v e c = d_X10_isUnsafe 82 e v M := by
  unfold d_X3_isUnsafe d_X10_isUnsafe
  rw [show 82 + 6 = 88 from rfl, show 82 + 7 = 89 from rfl, h, h2]
theorem af_eq {a : Nat} {e v : Int32} {c M : dc_M} (h : c.1 (a + 6) e.toNatClampNeg = M.1 88 e.toNatClampNeg) (h2 : c.1 (a + 7) e.toNatClampNeg = M.1 89 e.toNatClampNeg) : d_X3_after a v e c = d_X10_after 82 e v M := by
  unfold d_X3_after d_X10_after
  rw [show 82 + 6 = 88 from rfl, show 82 + 7 = 89 from rfl, h, h2]
theorem ls_b (s e : Int32) (m : dc_M) {M : dc_M} {P : Nat} {v w : Int32} (hP : (16 * s + e).toNatClampNeg = P) (hM : dc_wi m 100 P (-4) = M) (hv : M.1 99 s.toNatClampNeg = v) (hw : d_X10_after 82 e v M = w) : d_X10_layStates_l32b 82 s e m = if (m.1 82 3).toInt ≤ e.toInt then some (.inr (.inl (s + 1, m))) else if (d_X10_isReady 82 e v M).toInt = 0 then some (.inl (e + 1, M)) else if (d_X10_isUnsafe 82 e v M).toInt = 0 then (d_X10_stateOf 82 w M).bind (fun q => if ¬ q.toInt = 200 then (if ¬ q.toInt = (M.1 82 32).toInt then some (.inl (e + 1, dc_wi M 100 P q)) else some (.inl (e + 1, dc_wi (dc_wi (dc_wi M 99 q.toNatClampNeg w) 82 32 (M.1 82 32 + 1)) 100 P q))) else some (.inr (.inr (-6, dc_wi M 82 33 (-6))))) else some (.inr (.inr (-2, dc_wi M 82 33 (-2)))) := by
  subst hP hM hv hw
  rfl
theorem ofN {x : Int32} {n : Nat} (h : x.toInt = n) : x = Int32.ofNat n := Int32.toInt_inj.mp (by
  have := Int32.toInt_lt x
  rw [mk_i (by omega), h])
theorem ofN4 {n : Nat} (h : n < 1000) : Int32.ofNat n ≠ -4 := fun q => by
  have := congrArg Int32.toInt q
  rw [mk_i (by omega)] at this
  have e : (-4 : Int32).toInt = -4 := rfl
  omega
theorem XQ.nx {E : Int} {W mk mk' sl bh nx lv : Nat → Int32} {n s e : Nat} (h : XQ E W mk mk' sl bh nx lv n s e) (he : (e : Int) = E) : XQ E W mk mk' sl bh nx lv n (s + 1) 0 := by
  obtain ⟨h1, h2, h3, h4, h5, h6⟩ := h
  refine ⟨h1, h2, h3, fun i k hi hk hd => h4 i k hi hk (by unfold dn at hd ⊢; omega), h5, fun t t0 t1 => ?_⟩
  obtain ⟨i, k, g1, g2, g3, g4⟩ := h6 t t0 t1
  exact ⟨i, k, g1, g2, by unfold dn at g3 ⊢; omega, g4⟩
theorem xp_sim {x a : Nat} {c0 m0 c m z : dc_M} {y : (Int32 × dc_M) ⊕ (Int32 × dc_M)} {sI : Int32} {S n : Nat} (hx : x = 4 ∨ x = 63) (ha : a = 41 ∨ a = 52) (N : NL a c0 m0) (hs : sI.toInt = S) (hsn : S < n) (I : XS3 x a c0 m0 c m n S 0) (h1 : d_X7_expand x a sI c = some z) (h2 : d_X10_layStates_l32 82 sI 0 m = some y) : (∃ n' m', y = .inl (sI + 1, m') ∧ XS3 x a c0 m0 z m' n' (S + 1) 0 ∧ n ≤ n') ∨ (∃ v m', y = .inr (v, m') ∧ XF x c0 m0 z m' v) := by
  obtain ⟨N1, ⟨N2, N3⟩, N4, N5⟩ := N
  have hS2 := cl_n (x := sI) (by omega)
  have hSn : sI.toNatClampNeg = S := by omega
  unfold d_X7_expand d_X7_expand_l16 at h1
  unfold d_X10_layStates_l32 at h2
  rw [hSn] at h1
  obtain ⟨E, hE⟩ : ∃ E : Nat, (c0.1 a 1).toInt = E := ⟨(c0.1 a 1).toInt.toNat, by omega⟩
  generalize hmv : c.1 (x + 1) S = v at h1
  refine dc_lp_sim (s := (0, 0, 0, c)) (t := (0, m)) (fun (p : Int32 × Int32 × Int32 × dc_M) (t : Int32 × dc_M) => ∃ n' e : Nat, n ≤ n' ∧ p.2.2.1.toInt = e ∧ t.1 = p.2.2.1 ∧ e ≤ E ∧ XS3 x a c0 m0 p.2.2.2 t.2 n' S e ∧ PR (c0.1 (a + 3)) (t.2.1 100) p.1 p.2.1 S e ∧ p.2.2.2.1 (x + 1) S = v) (fun (z : dc_M) y => (∃ n' m', y = .inl (sI + 1, m') ∧ XS3 x a c0 m0 z m' n' (S + 1) 0 ∧ n ≤ n') ∨ (∃ v m', y = .inr (v, m') ∧ XF x c0 m0 z m' v)) (fun p t u w hI hf hk => ?_) ⟨n, 0, Nat.le_refl _, rfl, rfl, Nat.zero_le _, I, ⟨fun k hk => by rw [b32_0, decide_eq_false (Nat.not_lt_zero k), Bool.false_and], fun b hb => by rw [b32_0]; exact ⟨fun q => (by cases q), fun ⟨k, q, _⟩ => absurd q (Nat.not_lt_zero k)⟩⟩, hmv⟩ h1 h2
  obtain ⟨x4, x5, x6, c⟩ := p
  obtain ⟨y2, m⟩ := t
  obtain ⟨n', e, i1', i2, i3, i4, i5, i6, i7⟩ := hI
  have i2 : x6.toInt = e := i2
  have i3 : y2 = x6 := i3
  subst i3
  have i5 : XS3 x a c0 m0 c m n' S e := i5
  have i6 : PR (c0.1 (a + 3)) (m.1 100) x4 x5 S e := i6
  have i7 : c.1 (x + 1) S = v := i7
  obtain ⟨⟨n1, n2⟩, g0, g32, g1, g33, Q, RR, fC, fM⟩ := i5
  have ca : ∀ i k, i ≤ 10 → c.1 (a + i) k = c0.1 (a + i) k := fun i k hi => fC.1 _ _ (by omega)
  have ca1 : c.1 a 1 = c0.1 a 1 := fC.1 _ _ (by omega)
  have m3 : m.1 82 3 = c0.1 a 1 := (fM.1 82 3 (by omega) (by omega)).trans N1.symm
  have hen : y2.toNatClampNeg = e := by have := cl_n (x := y2) (by omega); omega
  have hf : d_X7_expand_l16b x a sI v x4 x5 y2 c = some u := hf
  have hk : d_X10_layStates_l32b 82 sI y2 m = some w := hk
  by_cases hlt : e < E
  · have he16 : e < 16 := by omega
    have P1 := ix_1 hs (by omega) i2 he16
    have P2 := ix_2 hs (by omega) i2 he16
    obtain ⟨M, hM⟩ : ∃ M, dc_wi m 100 (16 * S + e) (-4) = M := ⟨_, rfl⟩
    have Mf : ∀ b, b ≠ 100 → M.1 b = m.1 b := fun b hb => by rw [← hM]; exact wi_f hb
    have M100 : M.1 100 = upd (m.1 100) (16 * S + e) (-4) := by rw [← hM]; exact wi_upd
    have fM' : FM m0 M := by rw [← hM]; exact fM.wi (by omega)
    have M6 : c.1 (a + 6) y2.toNatClampNeg = M.1 88 y2.toNatClampNeg := by
      rw [hen, ca 6 e (by omega), Mf 88 (by decide), fM.1 88 e (by omega) (by omega)]
      exact (N4 e (by omega)).1
    have M7 : c.1 (a + 7) y2.toNatClampNeg = M.1 89 y2.toNatClampNeg := by
      rw [hen, ca 7 e (by omega), Mf 89 (by decide), fM.1 89 e (by omega) (by omega)]
      exact (N4 e (by omega)).2
    have mv : M.1 99 sI.toNatClampNeg = v := by
      rw [hSn, Mf 99 (by decide), ← Q.1 S (by omega)]
      exact i7
    rw [ls_b sI y2 m P2 hM mv rfl, m3, if_neg (by omega), ← rd_eq M6, ← un_eq M6 M7, ← af_eq M6 M7] at hk
    unfold d_X7_expand_l16b at hf
    rw [ca1, if_neg (by omega)] at hf
    have p1 : (y2 + 1).toInt = (e + 1 : Nat) := by rw [i1 (by omega) (Int32.le_toInt _)]; omega
    by_cases r : (d_X3_isReady a v y2 c).toInt = 0
    · rw [if_neg (fun q => q r)] at hf
      rw [if_pos r] at hk
      cases hf
      cases hk
      left
      refine ⟨_, _, rfl, rfl, n', e + 1, i1', p1, rfl, hlt, ⟨⟨n1, n2⟩, g0, ?_, g1, ?_, ?_, ?_, fC, fM'⟩, ?_, i7⟩
      · show M.1 82 32 = _
        rw [Mf 82 (by decide)]; exact g32
      · show M.1 82 33 = 1
        rw [Mf 82 (by decide)]; exact g33
      · show XQ _ _ _ (M.1 99) _ (M.1 100) _ _ _ _ _
        rw [Mf 99 (by decide), M100]
        exact Q.no (by omega) he16
      · show RW _ _ (M.1 100) _ _ _ _
        rw [M100]
        exact RR.bh (by omega)
      · show PR _ (M.1 100) _ _ _ _
        rw [M100]
        exact i6.no he16
    · rw [if_pos r] at hf
      rw [if_neg r] at hk
      by_cases us : (d_X3_isUnsafe a v y2 c).toInt = 0
      · rw [if_pos us, P1, hen, hSn] at hf
        rw [if_pos us] at hk
        generalize d_X3_after a v y2 c = τ at hf hk
        cases hz : d_X7_meet x τ (c.1 (x + 3) S ^^^ ((1 : Int32) <<< (c.1 (a + 3) e &&& 31))) c with
        | none => rw [hz] at hf; cases hf
        | some zz =>
          cases hq : d_X10_stateOf 82 τ M with
          | none => rw [hq] at hk; cases hk
          | some q =>
            rw [hz, Option.bind_some] at hf
            rw [hq, Option.bind_some] at hk
            have M32 : M.1 82 32 = c.1 x 0 := by rw [Mf 82 (by decide)]; exact g32
            have sq := so_run (n := n') (by rw [M32]; exact g0) hq
            rw [Mf 99 (by decide)] at sq
            rcases me_run hx g0 n2 Q.2.2.1 hz with ⟨t, t1, t2, rfl⟩ | ⟨no, hh⟩
            · -- a state that is known
              have qt : q = Int32.ofNat t := by
                rcases sq with ⟨t', s1, s2, s3⟩ | ⟨-, s2⟩
                · rw [s2]
                  have := Q.2.1 t' t s1 t1 (by rw [Q.1 t' s1, s3, t2])
                  rw [this]
                · exact absurd (by rw [← Q.1 t t1]; exact t2) (s2 t t1)
              have qi : q.toInt = t := by rw [qt, mk_i (by omega)]
              rw [if_pos (by show 0 ≤ (Int32.ofNat t).toInt; rw [mk_i (by omega)]; omega)] at hf
              rw [if_pos (by omega), if_pos (by rw [M32, g0]; omega)] at hk
              cases hf
              cases hk
              have df : ∀ i, i ≠ 5 → (dc_wi c (x + 5) (16 * S + e) (Int32.ofNat t)).1 (x + i) = c.1 (x + i) := fun i hi => wi_f (by omega)
              have d5 : (dc_wi c (x + 5) (16 * S + e) (Int32.ofNat t)).1 (x + 5) = upd (c.1 (x + 5)) (16 * S + e) (Int32.ofNat t) := wi_upd
              have m99 : (dc_wi M 100 (16 * S + e) q).1 99 = m.1 99 := (wi_f (by decide)).trans (Mf 99 (by decide))
              have m100 : (dc_wi M 100 (16 * S + e) q).1 100 = upd (m.1 100) (16 * S + e) q := by rw [wi_upd, M100, upd_upd]
              left
              refine ⟨_, _, rfl, rfl, n', e + 1, i1', p1, rfl, hlt, ⟨⟨n1, n2⟩, ?_, ?_, ?_, ?_, ?_, ?_, ?_, ?_⟩, ?_, ?_⟩
              · show ((dc_wi c (x + 5) _ _).1 x 0).toInt = _
                rw [wi_k (by omega)]; exact g0
              · show (dc_wi M 100 _ q).1 82 32 = (dc_wi c (x + 5) _ _).1 x 0
                rw [wi_k (by omega), wi_k (by omega)]; exact M32
              · show (dc_wi c (x + 5) _ _).1 x 1 = 0
                rw [wi_k (by omega)]; exact g1
              · show (dc_wi M 100 _ q).1 82 33 = 1
                rw [wi_k (by omega), Mf 82 (by decide)]; exact g33
              · show XQ _ _ ((dc_wi c (x + 5) (16 * S + e) (Int32.ofNat t)).1 (x + 1)) ((dc_wi M 100 (16 * S + e) q).1 99) ((dc_wi c (x + 5) (16 * S + e) (Int32.ofNat t)).1 (x + 6)) ((dc_wi M 100 (16 * S + e) q).1 100) ((dc_wi c (x + 5) (16 * S + e) (Int32.ofNat t)).1 (x + 5)) ((dc_wi c (x + 5) (16 * S + e) (Int32.ofNat t)).1 (x + 3)) n' S (e + 1)
                rw [df 1 (by decide), df 6 (by decide), df 3 (by decide), d5, m99, m100, qt]
                exact Q.old (by omega) he16 t1
              · show RW _ _ ((dc_wi M 100 (16 * S + e) q).1 100) ((dc_wi c (x + 5) (16 * S + e) (Int32.ofNat t)).1 (x + 2)) ((dc_wi c (x + 5) (16 * S + e) (Int32.ofNat t)).1 (x + 4)) ((dc_wi c (x + 5) (16 * S + e) (Int32.ofNat t)).1 x 2) S
                rw [df 2 (by decide), df 4 (by decide), wi_k (by omega), m100]
                exact RR.bh (by omega)
              · exact fC.wi (by omega)
              · exact fM'.wi (by omega)
              · show PR _ ((dc_wi M 100 (16 * S + e) q).1 100) (x4 ||| ((1 : Int32) <<< (y2 &&& 31))) (x5 ||| ((1 : Int32) <<< (c.1 (a + 3) e &&& 31))) S (e + 1)
                rw [m100, ca 3 e (by omega)]
                exact i6.go he16 i2 (by rw [qt]; exact ofN4 (by omega))
              · show (dc_wi c (x + 5) _ _).1 (x + 1) S = v
                rw [wi_k (by omega)]; exact i7
            · have qn : q = M.1 82 32 := by
                rcases sq with ⟨t', s1, s2, s3⟩ | ⟨s1, -⟩
                · exact absurd (by rw [Q.1 t' s1]; exact s3) (no t' s1)
                · exact s1
              have qi : q.toInt = n' := by rw [qn, M32]; exact g0
              rcases hh with ⟨f200, rfl⟩ | ⟨f200, p, p5, rfl, HH⟩
              · -- a 201st
                rw [if_neg (by show ¬ 0 ≤ (-4 : Int32).toInt; decide)] at hf
                rw [if_neg (fun z => z (by omega))] at hk
                cases hf
                cases hk
                refine Or.inr ⟨_, _, rfl, rfl, Or.inr ⟨-6, _, rfl, ?_, Or.inr rfl, ?_, ?_, fC.wi (by omega), fM'.wi (by omega)⟩⟩
                · exact wi_s
                · exact wi_s
                · rw [wi_k (by omega), M32, g0]; omega
              · -- a new one
                have en : c.1 x 0 = Int32.ofNat n' := ofN g0
                have en1 : c.1 x 0 + 1 = Int32.ofNat (n' + 1) := ofN (by rw [i1 (by omega) (Int32.le_toInt _)]; omega)
                have enc : (c.1 x 0).toNatClampNeg = n' := by have := cl_n (x := c.1 x 0) (by omega); omega
                have qc : q.toNatClampNeg = n' := by have := cl_n (x := q) (by omega); omega
                rw [if_pos (by show 0 ≤ (c.1 x 0).toInt; omega)] at hf
                rw [if_pos (by omega), if_neg (fun z => z (by rw [qn])), qc] at hk
                cases hf
                cases hk
                have Y1 : (meM x c p τ (c.1 (x + 3) S ^^^ ((1 : Int32) <<< (c.1 (a + 3) e &&& 31)))).1 (x + 1) = upd (c.1 (x + 1)) n' τ := by
                  unfold meM
                  rw [wi_f (by omega), wi_f (by omega), wi_f (by omega), wi_upd, enc]
                have Y3 : (meM x c p τ (c.1 (x + 3) S ^^^ ((1 : Int32) <<< (c.1 (a + 3) e &&& 31)))).1 (x + 3) = upd (c.1 (x + 3)) n' (c.1 (x + 3) S ^^^ ((1 : Int32) <<< (c.1 (a + 3) e &&& 31))) := by
                  unfold meM
                  rw [wi_f (by omega), wi_f (by omega), wi_upd, wi_f (by omega), enc]
                have Y6 : (meM x c p τ (c.1 (x + 3) S ^^^ ((1 : Int32) <<< (c.1 (a + 3) e &&& 31)))).1 (x + 6) = upd (c.1 (x + 6)) p (Int32.ofNat (n' + 1)) := by
                  unfold meM
                  rw [wi_f (by omega), wi_upd, wi_f (by omega), wi_f (by omega), en1]
                have Yo : ∀ i, i = 2 ∨ i = 4 ∨ i = 5 → (meM x c p τ (c.1 (x + 3) S ^^^ ((1 : Int32) <<< (c.1 (a + 3) e &&& 31)))).1 (x + i) = c.1 (x + i) := fun i hi => by
                  unfold meM
                  rw [wi_f (by omega), wi_f (by omega), wi_f (by omega), wi_f (by omega)]
                have Y00 : (meM x c p τ (c.1 (x + 3) S ^^^ ((1 : Int32) <<< (c.1 (a + 3) e &&& 31)))).1 x 0 = c.1 x 0 + 1 := wi_s
                have Yx : ∀ k, k ≠ 0 → (meM x c p τ (c.1 (x + 3) S ^^^ ((1 : Int32) <<< (c.1 (a + 3) e &&& 31)))).1 x k = c.1 x k := fun k hk => by
                  unfold meM
                  rw [wi_k (by omega), wi_k (by omega), wi_k (by omega), wi_k (by omega)]
                have YF : FC x c0 (meM x c p τ (c.1 (x + 3) S ^^^ ((1 : Int32) <<< (c.1 (a + 3) e &&& 31)))) := (((fC.wi (by omega)).wi (by omega)).wi (by omega)).wi (by omega)
                have hW : c.1 (a + 3) e = c0.1 (a + 3) e := ca 3 e (by omega)
                rw [hW] at Y1 Y3 Y6 Yo Y00 Yx YF ⊢
                generalize meM x c p τ (c.1 (x + 3) S ^^^ ((1 : Int32) <<< (c0.1 (a + 3) e &&& 31))) = Y at *
                have w99 : (dc_wi (dc_wi (dc_wi M 99 n' τ) 82 32 (M.1 82 32 + 1)) 100 (16 * S + e) q).1 99 = upd (m.1 99) n' τ := by
                  rw [wi_f (by omega), wi_f (by omega), wi_upd, Mf 99 (by decide)]
                have w100 : (dc_wi (dc_wi (dc_wi M 99 n' τ) 82 32 (M.1 82 32 + 1)) 100 (16 * S + e) q).1 100 = upd (m.1 100) (16 * S + e) q := by
                  rw [wi_upd, wi_f (by omega), wi_f (by omega), M100, upd_upd]
                have yf : ∀ i, i ≠ 5 → (dc_wi Y (x + 5) (16 * S + e) (c.1 x 0)).1 (x + i) = Y.1 (x + i) := fun i hi => wi_f (by omega)
                have y5 : (dc_wi Y (x + 5) (16 * S + e) (c.1 x 0)).1 (x + 5) = upd (Y.1 (x + 5)) (16 * S + e) (c.1 x 0) := wi_upd
                left
                refine ⟨_, _, rfl, rfl, n' + 1, e + 1, by omega, p1, rfl, hlt, ⟨⟨by omega, by omega⟩, ?_, ?_, ?_, ?_, ?_, ?_, YF.wi (by omega), ((fM'.wi (by omega)).wi (by omega)).wi (by omega)⟩, ?_, ?_⟩
                · show ((dc_wi Y (x + 5) _ _).1 x 0).toInt = _
                  rw [wi_k (by omega), Y00, en1, mk_i (by omega)]
                · show (dc_wi (dc_wi (dc_wi M 99 n' τ) 82 32 (M.1 82 32 + 1)) 100 _ q).1 82 32 = (dc_wi Y (x + 5) _ _).1 x 0
                  rw [wi_k (by omega), wi_s, wi_k (by omega), Y00, M32]
                · show (dc_wi Y (x + 5) _ _).1 x 1 = 0
                  rw [wi_k (by omega), Yx 1 (by decide)]; exact g1
                · show (dc_wi (dc_wi (dc_wi M 99 n' τ) 82 32 (M.1 82 32 + 1)) 100 _ q).1 82 33 = 1
                  rw [wi_k (by omega), wi_k (by omega), wi_k (by omega), Mf 82 (by decide)]; exact g33
                · show XQ _ _ ((dc_wi Y (x + 5) (16 * S + e) (c.1 x 0)).1 (x + 1)) ((dc_wi (dc_wi (dc_wi M 99 n' τ) 82 32 (M.1 82 32 + 1)) 100 (16 * S + e) q).1 99) ((dc_wi Y (x + 5) (16 * S + e) (c.1 x 0)).1 (x + 6)) ((dc_wi (dc_wi (dc_wi M 99 n' τ) 82 32 (M.1 82 32 + 1)) 100 (16 * S + e) q).1 100) ((dc_wi Y (x + 5) (16 * S + e) (c.1 x 0)).1 (x + 5)) ((dc_wi Y (x + 5) (16 * S + e) (c.1 x 0)).1 (x + 3)) (n' + 1) S (e + 1)
                  rw [w99, w100, yf 1 (by decide), yf 6 (by decide), yf 3 (by decide), y5, Y1, Y6, Yo 5 (by omega), Y3, qn, M32, en]
                  exact Q.new (by omega) (by omega) (by omega) no HH
                · show RW _ _ ((dc_wi (dc_wi (dc_wi M 99 n' τ) 82 32 (M.1 82 32 + 1)) 100 (16 * S + e) q).1 100) ((dc_wi Y (x + 5) (16 * S + e) (c.1 x 0)).1 (x + 2)) ((dc_wi Y (x + 5) (16 * S + e) (c.1 x 0)).1 (x + 4)) ((dc_wi Y (x + 5) (16 * S + e) (c.1 x 0)).1 x 2) S
                  rw [w100, yf 2 (by decide), yf 4 (by decide), wi_k (by omega), Yo 2 (by omega), Yo 4 (by omega), Yx 2 (by decide)]
                  exact RR.bh (by omega)
                · show PR _ ((dc_wi (dc_wi (dc_wi M 99 n' τ) 82 32 (M.1 82 32 + 1)) 100 (16 * S + e) q).1 100) (x4 ||| ((1 : Int32) <<< (y2 &&& 31))) (x5 ||| ((1 : Int32) <<< (c0.1 (a + 3) e &&& 31))) S (e + 1)
                  rw [w100]
                  exact i6.go he16 i2 (by rw [qn, M32, en]; exact ofN4 (by omega))
                · show (dc_wi Y (x + 5) _ _).1 (x + 1) S = v
                  rw [wi_k (by omega), Y1, upd_n (by omega)]; exact i7
      · rw [if_neg us] at hf hk
        cases hf
        cases hk
        refine Or.inr ⟨_, _, rfl, rfl, Or.inr ⟨-2, _, rfl, ?_, Or.inl rfl, ?_, ?_, fC.wi (by omega), fM'.wi (by omega)⟩⟩
        · exact wi_s
        · exact wi_s
        · rw [wi_k (by omega), Mf 82 (by decide), g32, g0]; omega
  · have hee : e = E := by omega
    subst hee
    rw [ls_b sI y2 m rfl rfl rfl rfl, m3, if_pos (by omega)] at hk
    cases hk
    unfold d_X7_expand_l16b d_X7_expand_b136 at hf
    rw [ca1, if_pos (by omega), hSn] at hf
    have hf : some (Sum.inr (dc_wi (dc_wi (dc_wi c (x + 2) S x4) (x + 4) S x5) x 2 ((dc_wi (dc_wi c (x + 2) S x4) (x + 4) S x5).1 x 2 ||| x4))) = some u := hf
    cases hf
    refine Or.inr ⟨_, _, rfl, rfl, Or.inl ⟨n', m, rfl, ⟨⟨n1, n2⟩, ?_, ?_, ?_, g33, ?_, ?_, ((fC.wi (by omega)).wi (by omega)).wi (by omega), fM⟩, i1'⟩⟩
    · rw [wi_k (by omega), wi_k (by omega), wi_k (by omega)]; exact g0
    · rw [wi_k (by omega), wi_k (by omega), wi_k (by omega)]; exact g32
    · rw [wi_k (by omega), wi_k (by omega), wi_k (by omega)]; exact g1
    · have fo : ∀ i, i = 1 ∨ i = 3 ∨ i = 5 ∨ i = 6 → (dc_wi (dc_wi (dc_wi c (x + 2) S x4) (x + 4) S x5) x 2 ((dc_wi (dc_wi c (x + 2) S x4) (x + 4) S x5).1 x 2 ||| x4)).1 (x + i) = c.1 (x + i) := fun i hi => by rw [wi_f (by omega), wi_f (by omega), wi_f (by omega)]
      rw [fo 1 (by omega), fo 3 (by omega), fo 5 (by omega), fo 6 (by omega)]
      exact Q.nx hE.symm
    · have f2 : (dc_wi (dc_wi (dc_wi c (x + 2) S x4) (x + 4) S x5) x 2 ((dc_wi (dc_wi c (x + 2) S x4) (x + 4) S x5).1 x 2 ||| x4)).1 (x + 2) = upd (c.1 (x + 2)) S x4 := by rw [wi_f (by omega), wi_f (by omega), wi_upd]
      have f4 : (dc_wi (dc_wi (dc_wi c (x + 2) S x4) (x + 4) S x5) x 2 ((dc_wi (dc_wi c (x + 2) S x4) (x + 4) S x5).1 x 2 ||| x4)).1 (x + 4) = upd (c.1 (x + 4)) S x5 := by rw [wi_f (by omega), wi_upd, wi_f (by omega)]
      rw [f2, f4, wi_s, wi_k (by omega), wi_k (by omega), hE]
      rw [hE] at RR
      exact RR.row i6
