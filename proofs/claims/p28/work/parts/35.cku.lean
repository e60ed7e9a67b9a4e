/-! ===== the checker is sound: loads, stores, longs, the stack ===== -/
section CKU
variable {SP : List ck_C} {Mo : List Nat} {β : Nat → Int} {A : ck_S} {lv : ab_L} {st : List Value} {h : ab_H} {l : List (Nat × ck_S)} {pc n i nL : Nat}
theorem ck_z_lld (g : ck_g SP β A lv st h) (hs : ck_ld 1 i n pc A = some l) : ck_fs SP Mo l h (ab_lld i n pc lv st h) := by
  unfold ck_ld at hs
  split at hs
  · rw [if_neg (by decide)] at hs
    cases hs
  · rename_i q hv
    split at hs
    · rename_i hk
      cases hs
      obtain ⟨w, hw, hvw⟩ := g.2.2.1 i _ (ck_lk_mem hv)
      have h0 : q.1 = 0 := by
        rcases hk with hk | hk
        · exact hk.2
        · cases hk.1
      cases w with
      | long x =>
        refine ⟨pc + n, lv, .long x :: st, h, _, β, ?_, List.mem_singleton.mpr rfl, ck_pu_ok hvw g, ck_fm.rf⟩
        unfold ab_lld
        rw [hw]
      | ref a =>
        have := hvw.1
        omega
      | retAddr a =>
        have := hvw.1
        omega
      | _ => exact hvw.elim
    · cases hs
  · cases hs
theorem ck_z_ald (g : ck_g SP β A lv st h) (hs : ck_ld 2 i n pc A = some l) : ck_fs SP Mo l h (ab_ald i n pc lv st h) := by
  unfold ck_ld at hs
  split at hs
  · rw [if_neg (by decide)] at hs
    cases hs
  · rename_i q hv
    split at hs
    · rename_i hk
      cases hs
      obtain ⟨w, hw, hvw⟩ := g.2.2.1 i _ (ck_lk_mem hv)
      have h0 : q.1 = 1 ∨ q.1 = 2 := by
        rcases hk with hk | hk
        · cases hk.1
        · exact hk.2
      cases w with
      | long x =>
        have : q.1 = 0 := hvw
        omega
      | ref a =>
        refine ⟨pc + n, lv, .ref a :: st, h, _, β, ?_, List.mem_singleton.mpr rfl, ck_pu_ok hvw g, ck_fm.rf⟩
        unfold ab_ald
        rw [hw]
      | retAddr a =>
        refine ⟨pc + n, lv, .retAddr a :: st, h, _, β, ?_, List.mem_singleton.mpr rfl, ck_pu_ok hvw g, ck_fm.rf⟩
        unfold ab_ald
        rw [hw]
      | _ => exact hvw.elim
    · cases hs
  · cases hs
theorem ck_z_l2 {f : Int64 → Int64 → Int64} (g : ck_g SP β A lv st h) (hs : ck_l2 pc A = some l) : ck_fs SP Mo l h (ab_l2 f pc lv st h) := by
  unfold ck_l2 at hs
  split at hs
  · rename_i p q r hst
    have g3 := g.2.2.2.1
    rw [hst] at g3
    split at hs
    · rename_i hk
      cases hs
      match st, g3 with
      | .long b :: .long a :: z, g3 => exact ⟨pc + 1, lv, .long (f a b) :: z, h, _, β, rfl, List.mem_singleton.mpr rfl, ck_sk_ok ⟨rfl, g3.2.2⟩ g, ck_fm.rf⟩
      | .ref b :: _, g3 => exact absurd (hk.1.symm.trans g3.1.1) (by decide)
      | .retAddr b :: _, g3 => exact absurd (hk.1.symm.trans g3.1.1) (by decide)
      | .long b :: .ref a :: z, g3 => exact absurd (hk.2.symm.trans g3.2.1.1) (by decide)
      | .long b :: .retAddr a :: z, g3 => exact absurd (hk.2.symm.trans g3.2.1.1) (by decide)
    · cases hs
  · cases hs
theorem ck_z_dup (g : ck_g SP β A lv st h) (hs : ck_dup pc A = some l) : ck_fs SP Mo l h (ab_dup pc lv st h) := by
  unfold ck_dup at hs
  split at hs
  · rename_i v r hst
    have g3 := g.2.2.2.1
    rw [hst] at g3
    split at hs
    · rename_i hk
      cases hs
      match st, g3 with
      | w :: z, g3 =>
        refine ⟨pc + 1, lv, w :: w :: z, h, _, β, ?_, List.mem_singleton.mpr rfl, ck_sk_ok ⟨g3.1, g3.1, g3.2⟩ g, ck_fm.rf⟩
        have e := ck_two_cat g3.1
        rw [hk] at e
        have e1 : w.category = 1 := by
          cases w <;> first | rfl | exact absurd e (by decide)
        exact if_pos e1
    · cases hs
  · cases hs
theorem ck_z_pop (g : ck_g SP β A lv st h) (hs : ck_pop pc A = some l) : ck_fs SP Mo l h (ab_pop pc lv st h) := by
  unfold ck_pop at hs
  split at hs
  · rename_i v r hst
    have g3 := g.2.2.2.1
    rw [hst] at g3
    split at hs
    · rename_i hk
      cases hs
      match st, g3 with
      | w :: z, g3 =>
        refine ⟨pc + 1, lv, z, h, _, β, ?_, List.mem_singleton.mpr rfl, ck_sk_ok g3.2 g, ck_fm.rf⟩
        have e := ck_two_cat g3.1
        rw [hk] at e
        have e1 : w.category = 1 := by
          cases w <;> first | rfl | exact absurd e (by decide)
        exact if_pos e1
    · cases hs
  · cases hs
end CKU
