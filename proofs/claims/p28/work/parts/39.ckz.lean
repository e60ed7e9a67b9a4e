/-! ===== the checker is sound: arrays ===== -/
section CKZ
variable {SP : List ck_C} {Mo : List Nat} {β : Nat → Int} {A : ck_S} {lv : ab_L} {st : List Value} {h : ab_H} {l : List (Nat × ck_S)} {pc n i nL : Nat}
theorem ck_c_int {t m : Nat} {lo hi : Int} {cs : List Nat} {e : ab_E} (hc : ck_c (.inl (t, m, lo, hi, cs)) e) (ht : t ≠ 2 ∧ t ≠ 4) : ∃ f, e = .inl (t, m, .inl f) ∧ ∀ j, j < m → lo ≤ (f j).toInt ∧ (f j).toInt ≤ hi := by
  match e, hc with
  | .inl (t', n', .inl f), hc =>
    obtain ⟨e1, e2, -, h4⟩ := hc
    subst e1
    subst e2
    exact ⟨f, rfl, h4⟩
  | .inl (t', n', .inr (.inl f)), hc => exact absurd hc.2.2 ht.1
  | .inl (t', n', .inr (.inr f)), hc => exact absurd hc.2.2.1 ht.2
theorem ck_z_ial (g : ck_g SP β A lv st h) (hs : ck_ial SP [0] pc A = some l) : ck_fs SP Mo l h (ab_ial pc lv st h) := by
  unfold ck_ial at hs
  split at hs
  · rename_i v a r hst
    have g3 := g.2.2.2.1
    rw [hst] at g3
    split at hs
    · rename_i t m lo hi cs hat
      split at hs
      · rename_i hk
        have ht : t = 0 := by simpa using hk.1
        subst ht
        rw [if_neg (by decide), if_neg (by decide)] at hs
        obtain ⟨r1, r2, -⟩ := ck_at_ok hat g.2.2.2.2.2
        obtain ⟨f, ef, hf⟩ := ck_c_int r2 ⟨by decide, by decide⟩
        rw [ef] at r1
        match st, g3 with
        | .int x :: .ref b :: q, g3 =>
          have e : a = b := g3.2.1.2
          subst e
          obtain ⟨k1, k2⟩ := ck_idx_of g3.1 hk.2
          obtain ⟨A', β', h1, h2⟩ := ck_nf_ok (hf _ k2).1 (hf _ k2).2 (ck_sk_ok g3.2.2 g) hs
          refine ⟨pc + 1, lv, .int (f x.toNatClampNeg) :: q, h, A', β', ?_, h1, h2, ck_fm.rf⟩
          unfold ab_ial
          simp only [r1, if_pos k1]
        | .int x :: .long b :: _, g3 => exact absurd (show (1 : Nat) = 0 from g3.2.1) (by decide)
        | .int x :: .retAddr b :: _, g3 => exact absurd (show (1 : Nat) = 2 from g3.2.1.1) (by decide)
      · cases hs
    · cases hs
  · split at hs
    · rename_i hk
      exact absurd hk.1 (by decide)
    · split at hs
      · rename_i hk
        exact absurd hk.1 (by decide)
      · cases hs
  · cases hs
end CKZ
