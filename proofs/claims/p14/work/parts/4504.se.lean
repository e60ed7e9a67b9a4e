/-! ===== states: all of them, on both sides ===== -/
theorem fi_run {a n : Nat} {v : Int32} {m e : dc_M} (hl : (m.2.2.2 a).2 = n) (hn : n < 100000) (h : d_J7_fill_53178 a v m = some e) : e.2 = m.2 ∧ (∀ b, b ≠ a → e.1 b = m.1 b) ∧ ∀ j, j < n → e.1 a j = v := by
  unfold d_J7_fill_53178 d_J7_fill_53178_l5 at h
  rw [hl] at h
  have q : e.2 = m.2 ∧ ∀ b k, e.1 b k = if b = a ∧ k < n then v else m.1 b k := by
    refine dc_lp_inv (f := d_J7_fill_53178_l5s a v (Int32.ofNat n)) (s := (0, m)) (fun s : Int32 × dc_M => (0 ≤ s.1.toInt ∧ s.1.toInt ≤ n) ∧ s.2.2 = m.2 ∧ ∀ b k : Nat, s.2.1 b k = if b = a ∧ (k : Int) < s.1.toInt then v else m.1 b k) (fun e : dc_M => e.2 = m.2 ∧ ∀ b k : Nat, e.1 b k = if b = a ∧ k < n then v else m.1 b k) (fun s s' hI hs => ?_) (fun s e hI hs => ?_) ⟨⟨show 0 ≤ (0 : Int32).toInt by decide, by show (0 : Int32).toInt ≤ _; rw [show (0 : Int32).toInt = 0 from rfl]; omega⟩, rfl, fun b k => ?_⟩ h
    · obtain ⟨i, s⟩ := s
      obtain ⟨⟨i0, i1'⟩, j2, jr⟩ := hI
      have i0 : 0 ≤ i.toInt := i0
      have jr : ∀ b k : Nat, s.1 b k = if b = a ∧ (k : Int) < i.toInt then v else m.1 b k := jr
      have hs : d_J7_fill_53178_l5b a v (Int32.ofNat n) i s = some (.inl s') := hs
      unfold d_J7_fill_53178_l5b at hs
      rw [mk_i (by omega)] at hs
      have hc := cl_n i0
      by_cases c : (n : Int) ≤ i.toInt
      · rw [if_pos c] at hs; cases hs
      · rw [if_neg c] at hs
        cases hs
        have p1 : (i + 1).toInt = i.toInt + 1 := i1 (by omega) (Int32.le_toInt _)
        refine ⟨⟨by show 0 ≤ (i + 1).toInt; omega, by show (i + 1).toInt ≤ n; omega⟩, j2, fun b k => ?_⟩
        show (dc_wi s a i.toNatClampNeg v).1 b k = if b = a ∧ (k : Int) < (i + 1).toInt then v else m.1 b k
        by_cases c2 : b = a ∧ k = i.toNatClampNeg
        · rw [c2.1, c2.2, wi_s, if_pos ⟨rfl, by omega⟩]
        · rw [wi_k c2, jr]
          by_cases c3 : b = a ∧ (k : Int) < i.toInt
          · rw [if_pos c3, if_pos ⟨c3.1, by omega⟩]
          · rw [if_neg c3, if_neg (by omega)]
    · obtain ⟨i, s⟩ := s
      obtain ⟨⟨i0, i1'⟩, j2, jr⟩ := hI
      have i1' : i.toInt ≤ n := i1'
      have jr : ∀ b k : Nat, s.1 b k = if b = a ∧ (k : Int) < i.toInt then v else m.1 b k := jr
      have hs : d_J7_fill_53178_l5b a v (Int32.ofNat n) i s = some (.inr e) := hs
      unfold d_J7_fill_53178_l5b at hs
      rw [mk_i (by omega)] at hs
      by_cases c : (n : Int) ≤ i.toInt
      · rw [if_pos c] at hs
        cases hs
        refine ⟨j2, fun b k => ?_⟩
        rw [jr]
        by_cases c3 : b = a ∧ k < n
        · rw [if_pos c3, if_pos ⟨c3.1, by omega⟩]
        · rw [if_neg c3, if_neg (by omega)]
      · rw [if_neg c] at hs; cases hs
    · show m.1 b k = _
      rw [show ((0, m) : Int32 × dc_M).1.toInt = 0 from rfl, if_neg (by omega)]
  refine ⟨q.1, fun b hb => funext (fun k => ?_), fun j hj => ?_⟩
  · rw [q.2, if_neg (fun z => hb z.1)]
  · rw [q.2, if_pos ⟨rfl, hj⟩]
/-- what exploring comes to, ahead of the levels -/
def EXo (x a : Nat) (c0 m0 : dc_M) (z : dc_M) (y : Int32 × dc_M) : Prop := (∃ n c1, XS3 x a c0 m0 c1 y.2 n n 0 ∧ y.1 = 1 ∧ d_X7_explore_b68 x a c1 = some z) ∨ (∃ v c1, XF x c0 m0 c1 y.2 v ∧ y.1 = v ∧ d_X7_explore_b68 x a c1 = some z)
theorem ex_lp {x a : Nat} {c0 m0 c m z : dc_M} {y : Int32 × dc_M} {sI : Int32} {n s : Nat} (hx : x = 4 ∨ x = 63) (ha : a = 41 ∨ a = 52) (N : NL a c0 m0) (hs : sI.toInt = s) (hsn : s ≤ n) (I : XS3 x a c0 m0 c m n s 0) (h1 : d_X7_explore_l41 x a sI c = some z) (h2 : d_X10_layStates_l22 82 sI m = some y) : EXo x a c0 m0 z y := by
  unfold d_X7_explore_l41 at h1
  unfold d_X10_layStates_l22 at h2
  refine dc_lp_s3 (s := (sI, c)) (t := (sI, m)) (fun (p : Int32 × dc_M) (t : Int32 × dc_M) => p.1 = t.1 ∧ ∃ n s : Nat, p.1.toInt = s ∧ s ≤ n ∧ XS3 x a c0 m0 p.2 t.2 n s 0) (EXo x a c0 m0) (fun p t z y hI hf hg => ?_) ⟨rfl, n, s, hs, hsn, I⟩ h1 h2
  obtain ⟨sI, c⟩ := p
  obtain ⟨tI, m⟩ := t
  obtain ⟨e, n, s, hs, hsn, I⟩ := hI
  have e : sI = tI := e
  subst e
  have hs : sI.toInt = s := hs
  have I : XS3 x a c0 m0 c m n s 0 := I
  have ⟨⟨n1, n2⟩, g0, g32, g1, g33, Q, RR, fC, fM⟩ := I
  rw [dc_lp_eq] at hf hg
  have hf0 : d_X7_explore_l41s x a (sI, c) = d_X7_explore_l41b x a sI c := rfl
  have hg0 : d_X10_layStates_l22s 82 (sI, m) = d_X10_layStates_l22b 82 sI m := rfl
  rw [hf0] at hf ⊢
  rw [hg0] at hg ⊢
  unfold d_X7_explore_l41b at hf ⊢
  unfold d_X10_layStates_l22b at hg ⊢
  rw [g32] at hg ⊢
  by_cases hlt : s < n
  · have c1 : ¬ (c.1 x 0).toInt ≤ sI.toInt := by omega
    have c2 : ¬ ¬ (c.1 x 1).toInt = 0 := fun q => q (by rw [g1]; rfl)
    rw [if_neg c1, if_neg c2] at hf ⊢
    rw [if_neg c1] at hg ⊢
    cases hq : d_X7_expand x a sI c with
    | none => rw [hq] at hf; cases hf
    | some q1 =>
      cases hl : d_X10_layStates_l32 82 sI 0 m with
      | none => rw [hl] at hg; cases hg
      | some y1 =>
        rw [hq, Option.bind_some] at hf
        rw [hl] at hg
        rw [Option.bind_some]
        rcases xp_sim hx ha N hs hlt I hq hl with ⟨n', m', rfl, I', hn'⟩ | ⟨v, m', rfl, F⟩
        · left
          exact ⟨_, _, rfl, rfl, rfl, n', s + 1, by show (sI + 1).toInt = _; rw [i1 (by omega) (Int32.le_toInt _)]; omega, by omega, I'⟩
        · right
          cases hg
          refine Or.inr ⟨v, q1, F, rfl, ?_⟩
          have hf : dc_lp (d_X7_explore_l41s x a) (sI + 1, q1) = some z := hf
          rw [dc_lp_eq] at hf
          have hf1 : d_X7_explore_l41s x a (sI + 1, q1) = d_X7_explore_l41b x a (sI + 1) q1 := rfl
          rw [hf1] at hf
          unfold d_X7_explore_l41b at hf
          have c3 : ¬ (q1.1 x 1).toInt = 0 := by
            rw [F.1]
            rcases F.2.1 with q | q <;> rw [q] <;> decide
          rw [if_pos c3, ite_self] at hf
          cases hz : d_X7_explore_b68 x a q1 with
          | none => rw [hz] at hf; cases hf
          | some w => rw [hz] at hf; cases hf; rfl
  · have c1 : (c.1 x 0).toInt ≤ sI.toInt := by omega
    rw [if_pos c1] at hf hg
    right
    cases hg
    have : s = n := by omega
    subst this
    refine Or.inl ⟨s, c, I, g33, ?_⟩
    cases hz : d_X7_explore_b68 x a c with
    | none => rw [hz] at hf; cases hf
    | some w => rw [hz] at hf; cases hf; rfl
theorem ex_sim {x a : Nat} {c m z : dc_M} {y : Int32 × dc_M} (hx : x = 4 ∨ x = 63) (ha : a = 41 ∨ a = 52) (N : NL a c m) (len : (c.2.2.2 (x + 6)).2 = 512) (h1 : d_X7_explore x a c = some z) (h2 : d_X10_layStates 82 m = some y) : EXo x a c m z y := by
  unfold d_X7_explore at h1
  unfold d_X10_layStates at h2
  rw [show 82 + 17 = 99 from rfl] at h2
  generalize hC : dc_wi (dc_wi (dc_wi (dc_wi c x 0 0) x 1 0) x 2 0) x 11 (-100) = C at h1
  generalize hM : dc_wi (dc_wi (dc_wi m 99 (Int32.toNatClampNeg 0) (m.1 82 11)) 82 32 1) 82 33 1 = M at h2
  have C0 : C.1 x 0 = 0 ∧ C.1 x 1 = 0 ∧ C.1 x 2 = 0 := by
    rw [← hC]
    refine ⟨?_, ?_, ?_⟩
    · rw [wi_k (by omega), wi_k (by omega), wi_k (by omega)]; exact wi_s
    · rw [wi_k (by omega), wi_k (by omega)]; exact wi_s
    · rw [wi_k (by omega)]; exact wi_s
  have FCC : FC x c C := by
    rw [← hC]
    exact FC.wi (FC.wi (FC.wi (FC.wi ⟨fun _ _ _ => rfl, rfl⟩ (by omega)) (by omega)) (by omega)) (by omega)
  have FMM : FM m M := by
    rw [← hM]
    exact FM.wi (FM.wi (FM.wi ⟨fun _ _ _ _ => rfl, rfl⟩ (by omega)) (by omega)) (by omega)
  have M0 : M.1 99 0 = m.1 82 11 ∧ M.1 82 32 = 1 ∧ M.1 82 33 = 1 := by
    rw [← hM]
    exact ⟨rfl, rfl, rfl⟩
  cases hq : d_J7_fill_53178 (x + 6) 0 C with
  | none => rw [hq] at h1; cases h1
  | some q1 =>
    rw [hq, Option.bind_some] at h1
    obtain ⟨f1, f2, f3⟩ := fi_run (n := 512) (by rw [FCC.2]; exact len) (by decide) hq
    have FC1 : FC x c q1 := ⟨fun b k hb => by rw [f2 b (by omega)]; exact FCC.1 b k hb, f1.trans FCC.2⟩
    have z0 : q1.1 x 0 = 0 := by rw [f2 x (by omega)]; exact C0.1
    cases hz : d_X7_meet x (q1.1 a 13) 0 q1 with
    | none => rw [hz] at h1; cases h1
    | some q2 =>
      rw [hz, Option.bind_some] at h1
      have zs : ∀ k, k ≤ 512 → sx_zs (q1.1 (x + 6)) k = k := fun k => by
        induction k with
        | zero => exact fun _ => rfl
        | succ k ih =>
          intro hk
          unfold sx_zs
          rw [if_pos (f3 k (by omega)), ih (by omega)]
          omega
      have H0 : HTI (q1.1 (x + 6)) (q1.1 (x + 1)) 0 := ⟨fun k hk => by rw [f3 k hk]; decide, fun s hs => absurd hs (Nat.not_lt_zero s), by rw [zs 512 (Nat.le_refl _)]; omega⟩
      have z0i : (q1.1 x 0).toInt = (0 : Nat) := by rw [z0]; rfl
      rcases me_run hx z0i (by decide) H0 hz with ⟨s, s1, -⟩ | ⟨-, ⟨f, -⟩ | ⟨-, p, p5, rfl, HH⟩⟩
      · exact absurd s1 (Nat.not_lt_zero s)
      · cases f
      · have nz : (q1.1 x 0).toNatClampNeg = 0 := by rw [z0]; rfl
        have a13 : q1.1 a 13 = m.1 82 11 := by rw [f2 a (by omega), FCC.1 a 13 (by omega)]; exact N.2.2.2
        have o1 : q1.1 x 0 + 1 = 1 := by rw [z0]; rfl
        have h1 : d_X7_explore_l41 x a 0 (meM x q1 p (q1.1 a 13) 0) = some z := h1
        have Y1 : (meM x q1 p (q1.1 a 13) 0).1 (x + 1) = upd (q1.1 (x + 1)) 0 (q1.1 a 13) := by
          unfold meM
          rw [wi_f (by omega), wi_f (by omega), wi_f (by omega), wi_upd, nz]
        have Y3 : (meM x q1 p (q1.1 a 13) 0).1 (x + 3) = upd (q1.1 (x + 3)) 0 0 := by
          unfold meM
          rw [wi_f (by omega), wi_f (by omega), wi_upd, wi_f (by omega), nz]
        have Y6 : (meM x q1 p (q1.1 a 13) 0).1 (x + 6) = upd (q1.1 (x + 6)) p (Int32.ofNat 1) := by
          unfold meM
          rw [wi_f (by omega), wi_upd, wi_f (by omega), wi_f (by omega), o1]
          rfl
        have Y0 : (meM x q1 p (q1.1 a 13) 0).1 x 0 = 1 := wi_s.trans o1
        have Yx : ∀ k, k ≠ 0 → (meM x q1 p (q1.1 a 13) 0).1 x k = q1.1 x k := fun k hk => by
          unfold meM
          rw [wi_k (by omega), wi_k (by omega), wi_k (by omega), wi_k (by omega)]
        have YF : FC x c (meM x q1 p (q1.1 a 13) 0) := (((FC1.wi (by omega)).wi (by omega)).wi (by omega)).wi (by omega)
        generalize meM x q1 p (q1.1 a 13) 0 = Y at *
        refine ex_lp hx ha N (s := 0) (n := 1) rfl (by decide) ⟨⟨by decide, by decide⟩, by rw [Y0]; rfl, by rw [Y0]; exact M0.2.1, by rw [Yx 1 (by decide), f2 x (by omega)]; exact C0.2.1, M0.2.2, ⟨fun j hj => ?_, fun i j hi hj _ => by omega, ?_, fun i k hi hk hd => by unfold dn at hd; omega, by rw [Y3, upd_s], fun t t0 t1 => by omega⟩, ⟨fun i hi => absurd hi (Nat.not_lt_zero i), fun k hk => ?_⟩, YF, FMM⟩ h1 h2
        · obtain rfl : j = 0 := by omega
          rw [Y1, upd_s, a13, M0.1]
        · rw [Y6, Y1]
          exact HH
        · rw [Yx 2 (by decide), f2 x (by omega), C0.2.2, b32_0]
          exact ⟨fun q => (by cases q), fun ⟨i, q, _⟩ => absurd q (Nat.not_lt_zero i)⟩
