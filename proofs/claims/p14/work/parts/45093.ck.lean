/-! ===== what the class remembers of its states ===== -/
theorem NL.e8 {a : Nat} {c c0 m : dc_M} (N : NL a c m) (e : ∀ i, i ≤ 10 → i ≠ 8 → c0.1 (a + i) = c.1 (a + i)) : NL a c0 m := by
  have e0 : c0.1 a = c.1 a := e 0 (by decide) (by decide)
  unfold NL at N ⊢
  rw [e0, e 6 (by decide) (by decide), e 7 (by decide) (by decide)]
  exact N
theorem NW2.e8 {a : Nat} {c c0 m : dc_M} (N : NW2 a c m) (e : ∀ i, i ≤ 10 → i ≠ 8 → c0.1 (a + i) = c.1 (a + i)) : NW2 a c0 m := by
  have e0 : c0.1 a = c.1 a := e 0 (by decide) (by decide)
  unfold NW2 at N ⊢
  rw [e0, e 3 (by decide) (by decide), e 4 (by decide) (by decide)]
  exact N
/-- once explored: the space is what exploring such a net gives -/
def CK (c : dc_M) : Prop := c.1 1 11 ≠ 0 → ∃ c0 c1 : dc_M, (∀ i, i ≤ 10 → i ≠ 8 → c0.1 (c.2.2.1 1 7 + i) = c.1 (c.2.2.1 1 7 + i)) ∧ (c0.2.2.2 10).2 = 512 ∧ d_X7_explore 4 (c.2.2.1 1 7) c0 = some c1 ∧ ∀ b k, 4 ≤ b → b ≤ 10 → ¬ (b = 4 ∧ k = 11) → c1.1 b k = c.1 b k
theorem CK.eq8 {c c' : dc_M} (K : CK c) (e1 : c'.1 1 11 = c.1 1 11) (e2 : c'.2.2.1 1 7 = c.2.2.1 1 7) (e3 : ∀ i, i ≤ 10 → i ≠ 8 → c'.1 (c.2.2.1 1 7 + i) = c.1 (c.2.2.1 1 7 + i)) (e4 : ∀ b k, 4 ≤ b → b ≤ 10 → ¬ (b = 4 ∧ k = 11) → c'.1 b k = c.1 b k) : CK c' := fun h => by
  rw [e1] at h
  obtain ⟨c0, c1, k1, k2, k3, k4⟩ := K h
  rw [e2]
  exact ⟨c0, c1, fun i hi h8 => by rw [e3 i hi h8]; exact k1 i hi h8, k2, k3, fun b k h1 h2 h3 => by rw [e4 b k h1 h2 h3]; exact k4 b k h1 h2 h3⟩
theorem CK.eq {c c' : dc_M} (K : CK c) (e1 : c'.1 1 11 = c.1 1 11) (e2 : c'.2.2.1 1 7 = c.2.2.1 1 7) (e3 : ∀ i, i ≤ 10 → c'.1 (c.2.2.1 1 7 + i) = c.1 (c.2.2.1 1 7 + i)) (e4 : ∀ b k, 4 ≤ b → b ≤ 10 → ¬ (b = 4 ∧ k = 11) → c'.1 b k = c.1 b k) : CK c' := K.eq8 e1 e2 (fun i hi _ => e3 i hi) e4
theorem ck_ex {a : Nat} {c c' : dc_M} (ha : a = 41 ∨ a = 52) (ha7 : c.2.2.1 1 7 = a) (len : (c.2.2.2 10).2 = 512) (K : CK c) (h : d_X9_explore 1 c = some c') : CK c' ∧ c'.1 1 11 ≠ 0 ∧ (∀ b k, ¬ (b = 1 ∧ k = 11) → ¬ (4 ≤ b ∧ b ≤ 11) → c'.1 b k = c.1 b k) ∧ c'.2 = c.2 := by
  unfold d_X9_explore at h
  by_cases c1 : (c.1 1 11).toInt = 0
  · rw [if_neg (fun q => q c1), show 1 + 3 = 4 from rfl, ha7] at h
    cases hq : d_X7_explore 4 a c with
    | none => rw [hq] at h; cases h
    | some q1 =>
      rw [hq, Option.bind_some] at h
      cases h
      have F : FC 4 c q1 := fx_X7_explore ⟨fun _ _ _ => rfl, rfl⟩ hq
      have e7 : (dc_wi q1 1 11 1).2.2.1 1 7 = a := by
        show q1.2.2.1 1 7 = a
        rw [F.2]; exact ha7
      refine ⟨fun _ => ?_, ?_, fun b k h1 h2 => ?_, F.2⟩
      · rw [e7]
        refine ⟨c, q1, fun i hi _ => ?_, len, hq, fun b k h1 h2 h3 => (wi_k (by omega)).symm⟩
        rw [wi_f (by omega)]
        exact (funext (fun k => F.1 _ k (by omega))).symm
      · rw [wi_s]; decide
      · rw [wi_k h1]
        exact F.1 b k (by omega)
  · rw [if_pos c1] at h
    cases h
    exact ⟨K, fun q => c1 (by rw [q]; rfl), fun _ _ _ _ => rfl, rfl⟩
theorem SP.eq {a : Nat} {z c m : dc_M} (ha : a = 41 ∨ a = 52) (S : SP 4 a z m) (e1 : ∀ b k, 4 ≤ b → b ≤ 10 → ¬ (b = 4 ∧ k = 11) → c.1 b k = z.1 b k) (e2 : ∀ i, i ≤ 10 → i ≠ 8 → c.1 (a + i) = z.1 (a + i)) : SP 4 a c m := by
  have e0 : c.1 a = z.1 a := e2 0 (by decide) (by decide)
  have f : ∀ b, 5 ≤ b → b ≤ 10 → c.1 b = z.1 b := fun b h1 h2 => funext (fun k => e1 b k (by omega) h2 (by omega))
  unfold SP at S ⊢
  rw [e1 4 0 (by decide) (by decide) (by decide), e1 4 1 (by decide) (by decide) (by decide), e1 4 2 (by decide) (by decide) (by decide), e1 4 3 (by decide) (by decide) (by decide), e0, e2 3 (by decide) (by decide), show 4 + 1 = 5 from rfl, show 4 + 2 = 6 from rfl, show 4 + 3 = 7 from rfl, show 4 + 4 = 8 from rfl, show 4 + 5 = 9 from rfl, f 5 (by decide) (by decide), f 6 (by decide) (by decide), f 7 (by decide) (by decide), f 8 (by decide) (by decide), f 9 (by decide) (by decide)]
  exact S
/-- the class, once it has explored, against the reference that lays right now -/
theorem ck_sp {a : Nat} {c m : dc_M} {y : Int32 × dc_M} (ha : a = 41 ∨ a = 52) (ha7 : c.2.2.1 1 7 = a) (K : CK c) (hk : c.1 1 11 ≠ 0) (N : NR a c m) (hr : ∀ k, k < 16 → 0 ≤ (m.1 86 k).toInt ∧ (m.1 86 k).toInt ≤ 1) (h : d_X10_layRight 82 m = some y) : SP 4 a c y.2 ∧ y.1 = y.2.1 82 37 ∧ FM m y.2 := by
  obtain ⟨c0, c1, k1, k2, k3, k4⟩ := K hk
  rw [ha7] at k1 k3
  obtain ⟨F, FMm, S, e⟩ := rt_sim (x := 4) (Or.inl rfl) ha (N.nl.e8 k1) ((N.nw hr).e8 k1) k2 k3 h
  refine ⟨S.eq ha (fun b k h1 h2 h3 => (k4 b k h1 h2 h3).symm) (fun i hi h8 => ?_), e, FMm⟩
  rw [← k1 i hi h8]
  exact (funext (fun k => F.1 _ k (by omega))).symm
/-- the same of the states alone -/
theorem ck_st {a : Nat} {c m : dc_M} {y : Int32 × dc_M} (ha : a = 41 ∨ a = 52) (ha7 : c.2.2.1 1 7 = a) (K : CK c) (hk : c.1 1 11 ≠ 0) (N : NR a c m) (h : d_X10_layStates 82 m = some y) : (c.1 4 1 = 0 ∧ y.1 = 1 ∧ y.2.1 82 32 = c.1 4 0) ∨ (∃ v, c.1 4 1 = v ∧ (v = -2 ∨ v = -6) ∧ y.1 = v ∧ y.2.1 82 33 = v) := by
  obtain ⟨c0, c1, k1, k2, k3, k4⟩ := K hk
  rw [ha7] at k1 k3
  have N0l := N.nl.e8 k1
  have e40 : c1.1 4 0 = c.1 4 0 := k4 4 0 (by decide) (by decide) (by decide)
  have e41 : c1.1 4 1 = c.1 4 1 := k4 4 1 (by decide) (by decide) (by decide)
  have lv : ∀ {c2 : dc_M} {t : Int32 × dc_M}, d_X7_tellLevels 4 a c2 = some t → ∀ k, t.2.1 4 k = c2.1 4 k := fun {c2 t} ht k => by
    unfold d_X7_tellLevels d_X7_tellLevels_l7 at ht
    refine dc_lp_inv (f := d_X7_tellLevels_l7s 4 a c2) (s := (0, 0, 0)) (fun _ => True) (fun t : Int32 × dc_M => t.2.1 4 k = c2.1 4 k) (fun _ _ _ _ => trivial) (fun p t _ hs => ?_) trivial ht
    have hs : d_X7_tellLevels_l7b 4 a p.1 p.2.1 p.2.2 c2 = some (.inr t) := hs
    unfold d_X7_tellLevels_l7b at hs
    split at hs
    · cases hz : d_X7_tellLevels_l163 4 p.2.1 0 c2 with
      | none => rw [hz] at hs; cases hs
      | some w =>
        rw [hz] at hs
        cases hs
        unfold d_X7_tellLevels_l163 at hz
        refine dc_lp_inv (f := d_X7_tellLevels_l163s 4 p.2.1) (s := (0, c2)) (fun s : Int32 × dc_M => s.2.1 4 k = c2.1 4 k) (fun t : Int32 × dc_M => t.2.1 4 k = c2.1 4 k) (fun s s' hI hs => ?_) (fun s e hI hs => ?_) rfl hz
        · have hs : d_X7_tellLevels_l163b 4 p.2.1 s.1 s.2 = some (.inl s') := hs
          unfold d_X7_tellLevels_l163b at hs
          split at hs
          · cases hs
          · cases hs
            show (dc_wi s.2 (4 + 3) _ _).1 4 k = _
            rw [wi_k (by omega)]; exact hI
        · have hs : d_X7_tellLevels_l163b 4 p.2.1 s.1 s.2 = some (.inr e) := hs
          unfold d_X7_tellLevels_l163b at hs
          split at hs
          · cases hs; exact hI
          · cases hs
    · unfold d_X7_tellLevels_l19 at hs
      have no : ∀ p0, d_X7_tellLevels_l19 4 a p.2.2 p.1 p.2.1 p0 c2 = some (.inr t) → t.2.1 4 k = c2.1 4 k := fun p0 hs => by
        unfold d_X7_tellLevels_l19 at hs
        refine dc_lp_inv (f := d_X7_tellLevels_l19s 4 a p.2.2 c2) (s := (p.1, p.2.1, p0)) (fun _ => True) (fun z : (Int32 × Int32 × Int32) ⊕ (Int32 × dc_M) => ∀ t, z = .inr t → t.2.1 4 k = c2.1 4 k) (fun _ _ _ _ => trivial) (fun q z _ hs => ?_) trivial hs t rfl
        have hs : d_X7_tellLevels_l19b 4 a p.2.2 q.1 q.2.1 q.2.2 c2 = some (.inr z) := hs
        have nb : ∀ a1 a2 a3 a4 a5 a6 z, d_X7_tellLevels_b107 4 a a1 a2 a3 a4 a5 a6 c2 = some (Sum.inr z) → ∀ t, z = .inr t → t.2.1 4 k = c2.1 4 k := fun a1 a2 a3 a4 a5 a6 z h t ht => by
          unfold d_X7_tellLevels_b107 at h
          split at h
          · cases h
          · split at h
            · cases h
            · cases h; cases ht; rfl
        unfold d_X7_tellLevels_l19b at hs
        split at hs
        · cases hs
          intro t ht
          cases ht
        · split at hs
          · split at hs
            · split at hs
              · exact nb _ _ _ _ _ _ _ hs
              · exact nb _ _ _ _ _ _ _ hs
            · cases hs
              intro t ht
              cases ht
              rfl
          · cases hs
      exact no 0 hs
  have b80 : ∀ {c2 w : dc_M}, d_X7_explore_b80 4 a c2 = some w → ∀ k, k ≠ 3 → w.1 4 k = c2.1 4 k := fun {c2 w} hw k hk => by
    unfold d_X7_explore_b80 at hw
    split at hw
    · cases hw
      exact wi_k (by omega)
    · cases ht : d_X7_tellLevels 4 a c2 with
      | none => rw [ht] at hw; cases hw
      | some t =>
        rw [ht, Option.bind_some] at hw
        split at hw
        · cases hw
          rw [wi_k (by omega)]; exact lv ht k
        · cases hw
          rw [wi_k (by omega)]; exact lv ht k
  rcases ex_sim (x := 4) (Or.inl rfl) ha N0l k2 k3 h with ⟨n, c2, I, q1, hb⟩ | ⟨v, c2, F, q1, hb⟩
  · obtain ⟨-, -, g32, g1, -, -⟩ := I
    unfold d_X7_explore_b68 at hb
    rw [if_pos (by rw [g1]; rfl)] at hb
    refine Or.inl ⟨?_, q1, ?_⟩
    · rw [← e41, b80 hb 1 (by decide)]; exact g1
    · rw [← e40, b80 hb 0 (by decide)]; exact g32
  · obtain ⟨f1, f2, f3, -⟩ := F
    unfold d_X7_explore_b68 at hb
    rw [if_neg (by rw [f1]; rcases f2 with q | q <;> rw [q] <;> decide)] at hb
    refine Or.inr ⟨v, ?_, f2, q1, f3⟩
    rw [← e41, b80 hb 1 (by decide), wi_k (by omega)]
    exact f1
