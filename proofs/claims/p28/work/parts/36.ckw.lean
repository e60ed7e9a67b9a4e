/-! ===== the checker is sound: more steps ===== -/
section CKW
variable {SP : List ck_C} {Mo : List Nat} {β : Nat → Int} {A : ck_S} {lv : ab_L} {st : List Value} {h : ab_H} {l : List (Nat × ck_S)} {pc n i nL : Nat}
theorem ck_s2_ok {v : ck_V} {w : Value} {r : List ck_V} {q : List Value} (hv : ck_v β A.2.2.2 v w) (hr : ck_st β A.2.2.2 r q) (g : ck_g SP β A lv st h) : ck_g SP β (ck_s2 i v A.1, r, A.2.2) (ab_s2 i w lv) q h := by
  refine ⟨g.1, g.2.1, fun j u hu => ?_, hr, g.2.2.2.2⟩
  rcases List.mem_cons.mp hu with e | hu
  · cases e
    refine ⟨w, ?_, hv⟩
    unfold ab_s2 ab_lk
    exact if_pos rfl
  · obtain ⟨hm, hp⟩ := List.mem_filter.mp hu
    obtain ⟨x, hx, hxv⟩ := g.2.2.1 j u hm
    refine ⟨x, ?_, hxv⟩
    dsimp only at hp
    have hji : ¬ i = j := by
      intro e
      subst e
      simp at hp
    unfold ab_s2 ab_lk
    rw [if_neg hji]
    refine ck_lk_filter hx ?_
    dsimp only
    rw [ck_two_cat hxv]
    exact hp
theorem ck_z_lst (g : ck_g SP β A lv st h) (hs : ck_sto nL 1 i n pc A = some l) : ck_fs SP Mo l h (ab_lst nL i n pc lv st h) := by
  unfold ck_sto at hs
  split at hs
  · split at hs
    · rename_i hk
      cases hk.1
    · cases hs
  · rename_i q r hst
    have g3 := g.2.2.2.1
    rw [hst] at g3
    split at hs
    · rename_i hk
      cases hs
      match st, g3 with
      | .long x :: z, g3 => exact ⟨pc + n, ab_s2 i (.long x) lv, z, h, _, β, if_pos hk.2.2, List.mem_singleton.mpr rfl, ck_s2_ok g3.1 g3.2 g, ck_fm.rf⟩
      | .ref b :: _, g3 => exact absurd (hk.2.1.symm.trans g3.1.1) (by decide)
      | .retAddr b :: _, g3 => exact absurd (hk.2.1.symm.trans g3.1.1) (by decide)
    · split at hs
      · rename_i hk
        cases hk.1
      · cases hs
  · cases hs
theorem ck_z_ast (g : ck_g SP β A lv st h) (hs : ck_sto nL 2 i n pc A = some l) : ck_fs SP Mo l h (ab_ast nL i n pc lv st h) := by
  unfold ck_sto at hs
  split at hs
  · split at hs
    · rename_i hk
      cases hk.1
    · cases hs
  · rename_i q r hst
    have g3 := g.2.2.2.1
    rw [hst] at g3
    split at hs
    · rename_i hk
      cases hk.1
    · split at hs
      · rename_i hk
        cases hs
        match st, g3 with
        | .ref x :: z, g3 => exact ⟨pc + n, ab_s1 i (.ref x) lv, z, h, _, β, if_pos hk.2.2, List.mem_singleton.mpr rfl, ck_s1_ok g3.1 g3.2 g, ck_fm.rf⟩
        | .long b :: _, g3 => exact absurd (hk.2.1.symm.trans (show q.1 = 0 from g3.1)) (by decide)
        | .retAddr b :: _, g3 => exact absurd (hk.2.1.symm.trans g3.1.1) (by decide)
      · cases hs
  · cases hs
theorem ck_z_lc (g : ck_g SP β A lv st h) (hs : ck_lc pc A = some l) : ck_fs SP Mo l h (ab_lc pc lv st h) := by
  unfold ck_lc at hs
  split at hs
  · rename_i p q r hst
    have g3 := g.2.2.2.1
    rw [hst] at g3
    split at hs
    · rename_i hk
      cases hs
      match st, g3 with
      | .long b :: .long a :: z, g3 =>
        have hl : -1 ≤ (lg_cmp a b).toInt ∧ (lg_cmp a b).toInt ≤ 1 := by
          unfold lg_cmp
          split
          · decide
          · split <;> decide
        obtain ⟨β', g'⟩ := ck_fr_ok hl.1 hl.2 (ck_sk_ok g3.2.2 g)
        exact ⟨pc + 1, lv, .int (lg_cmp a b) :: z, h, _, β', rfl, List.mem_singleton.mpr rfl, g', ck_fm.rf⟩
      | .ref b :: _, g3 => exact absurd (hk.1.symm.trans g3.1.1) (by decide)
      | .retAddr b :: _, g3 => exact absurd (hk.1.symm.trans g3.1.1) (by decide)
      | .long b :: .ref a :: z, g3 => exact absurd (hk.2.symm.trans g3.2.1.1) (by decide)
      | .long b :: .retAddr a :: z, g3 => exact absurd (hk.2.symm.trans g3.2.1.1) (by decide)
    · cases hs
  · cases hs
theorem ck_z_li (g : ck_g SP β A lv st h) (hs : ck_li pc A = some l) : ck_fs SP Mo l h (ab_li pc lv st h) := by
  unfold ck_li at hs
  split at hs
  · rename_i q r hst
    have g3 := g.2.2.2.1
    rw [hst] at g3
    split at hs
    · rename_i hk
      match st, g3 with
      | .long a :: z, g3 =>
        obtain ⟨A', β', h1, h2⟩ := ck_all_ok (a.toInt32) (ck_sk_ok g3.2 g) hs
        exact ⟨pc + 1, lv, .int a.toInt32 :: z, h, A', β', rfl, h1, h2, ck_fm.rf⟩
      | .ref b :: _, g3 => exact absurd (hk.symm.trans g3.1.1) (by decide)
      | .retAddr b :: _, g3 => exact absurd (hk.symm.trans g3.1.1) (by decide)
    · cases hs
  · cases hs
theorem ck_z_goto {off : Int} (g : ck_g SP β A lv st h) (hs : ck_to pc off (some A) = some l) : ck_fs SP Mo l h (ab_jp pc off lv st h) := by
  unfold ck_to at hs
  dsimp only at hs
  split at hs
  · rename_i hp
    cases hs
    exact ⟨_, lv, st, h, A, β, if_pos hp, List.mem_singleton.mpr rfl, g, ck_fm.rf⟩
  · cases hs
end CKW
