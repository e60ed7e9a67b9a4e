/-! ===== the checker is sound: lengths ===== -/
section CKA
variable {SP : List ck_C} {Mo : List Nat} {β : Nat → Int} {A : ck_S} {lv : ab_L} {st : List Value} {h : ab_H} {l : List (Nat × ck_S)} {pc n i nL : Nat}
theorem ck_c_arr {t m : Nat} {w : Int × Int × List Nat} {e : ab_E} (hc : ck_c (.inl (t, m, w)) e) : ∃ f, e = .inl (t, m, f) ∧ t < 5 := by
  obtain ⟨lo, hi, cs⟩ := w
  match e, hc with
  | .inl (t', n', .inl f), hc =>
    obtain ⟨e1, e2, h3, -⟩ := hc
    subst e1
    subst e2
    exact ⟨_, rfl, by omega⟩
  | .inl (t', n', .inr (.inl f)), hc =>
    obtain ⟨e1, e2, h3⟩ := hc
    subst e1
    subst e2
    exact ⟨_, rfl, by omega⟩
  | .inl (t', n', .inr (.inr f)), hc =>
    obtain ⟨e1, e2, h3, -⟩ := hc
    subst e1
    subst e2
    exact ⟨_, rfl, by omega⟩
theorem ck_z_len (g : ck_g SP β A lv st h) (hs : ck_len SP pc A = some l) : ck_fs SP Mo l h (ab_len2 pc lv st h) := by
  unfold ck_len at hs
  split at hs
  · rename_i a r hst
    have g3 := g.2.2.2.1
    rw [hst] at g3
    split at hs
    · rename_i t m w hat
      split at hs
      · rename_i hm
        cases hs
        obtain ⟨r1, r2, -⟩ := ck_at_ok hat g.2.2.2.2.2
        obtain ⟨f, ef, ht⟩ := ck_c_arr r2
        rw [ef] at r1
        have e0 : (Int32.ofNat m).toInt = m := by rw [Int32.toInt_ofNat', ck_bm (by omega) (by omega)]
        match st, g3 with
        | .ref b :: q, g3 =>
          have e : a = b := g3.1.2
          subst e
          refine ⟨pc + 1, lv, .int (Int32.ofNat m) :: q, h, _, β, ?_, List.mem_singleton.mpr rfl, ck_sk_ok ⟨by rw [← e0]; exact ck_kc_ok g.1 g.2.1, g3.2⟩ g, ck_fm.rf⟩
          show ab_len pc lv (.ref a :: q) h = _
          unfold ab_len
          simp only [r1, if_pos ht]
        | .long b :: _, g3 => exact absurd (show (1 : Nat) = 0 from g3.1) (by decide)
        | .retAddr b :: _, g3 => exact absurd (show (1 : Nat) = 2 from g3.1.1) (by decide)
      · cases hs
    · cases hs
  · rename_i k r hst
    have g3 := g.2.2.2.1
    rw [hst] at g3
    split at hs
    · rename_i hk
      cases hs
      match st, g3 with
      | .retAddr j :: z, g3 =>
        have e : k = j := g3.1.2
        subst e
        have hl : (ab_xt (k - 11)).length ≤ 5 := by
          unfold ab_xt
          split <;> decide
        have e0 : (Int32.ofNat (ab_xt (k - 11)).length).toInt = (ab_xt (k - 11)).length := by rw [Int32.toInt_ofNat', ck_bm (by omega) (by omega)]
        refine ⟨pc + 1, lv, .int (Int32.ofNat (ab_xt (k - 11)).length) :: z, h, _, β, ?_, List.mem_singleton.mpr rfl, ck_sk_ok ⟨by rw [← e0]; exact ck_kc_ok g.1 g.2.1, g3.2⟩ g, ck_fm.rf⟩
        unfold ab_len2
        exact if_pos hk
      | .long b :: _, g3 => exact absurd (show (2 : Nat) = 0 from g3.1) (by decide)
      | .ref b :: _, g3 => exact absurd (show (2 : Nat) = 1 from g3.1.1) (by decide)
    · cases hs
  · cases hs
end CKA
