/-! ===== the checker is sound: loads, stores, longs, the stack ===== -/
section CKU
variable {SP : List ck_C} {Mo : List Nat} {β : Nat → Int} {A : ck_S} {lv : ab_L} {st : List Value} {h : ab_H} {l : List (Nat × ck_S)} {pc n i nL : Nat}
theorem ck_cat1 {nx : Nat} {v : ck_V} {w : Value} (hv : ck_v β nx v w) (hk : ck_two v = false) : w.category = 1 := by
  have e := ck_two_cat hv
  rw [hk] at e
  cases w <;> first | rfl | exact absurd (show true = false from e) (by decide)
theorem ck_z_lld (g : ck_g SP β A lv st h) (hs : ck_ld 1 i n pc A = some l) : ck_fs SP Mo l h (ab_lld i n pc lv st h) := by
  unfold ck_ld at hs
  split at hs
  · rw [if_neg (by decide)] at hs
    cases hs
  · rename_i q hv
    split at hs
    · rename_i hk
      cases hs
      obtain ⟨w, hw, hvw⟩ := g.2.2.1 i _ (ck_lk_mem hv)
      have h0 : q.1 = 0 := by
        rcases hk with hk | hk
        · exact hk.2
        · cases hk.1
      cases w with
      | long x =>
        refine ⟨pc + n, lv, .long x :: st, h, _, β, ?_, List.mem_singleton.mpr rfl, ck_pu_ok hvw g, ck_fm.rf⟩
        unfold ab_lld
        rw [hw]
      | ref a =>
        have := hvw.1
        omega
      | retAddr a =>
        have := hvw.1
        omega
      | _ => exact hvw.elim
    · cases hs
  · cases hs
theorem ck_z_ald (g : ck_g SP β A lv st h) (hs : ck_ld 2 i n pc A = some l) : ck_fs SP Mo l h (ab_ald i n pc lv st h) := by
  unfold ck_ld at hs
  split at hs
  · rw [if_neg (by decide)] at hs
    cases hs
  · rename_i q hv
    split at hs
    · rename_i hk
      cases hs
      obtain ⟨w, hw, hvw⟩ := g.2.2.1 i _ (ck_lk_mem hv)
      have h0 : q.1 = 1 ∨ q.1 = 2 := by
        rcases hk with hk | hk
        · cases hk.1
        · exact hk.2
      cases w with
      | long x =>
        have : q.1 = 0 := hvw
        omega
      | ref a =>
        refine ⟨pc + n, lv, .ref a :: st, h, _, β, ?_, List.mem_singleton.mpr rfl, ck_pu_ok hvw g, ck_fm.rf⟩
        unfold ab_ald
        rw [hw]
      | retAddr a =>
        refine ⟨pc + n, lv, .retAddr a :: st, h, _, β, ?_, List.mem_singleton.mpr rfl, ck_pu_ok hvw g, ck_fm.rf⟩
        unfold ab_ald
        rw [hw]
      | _ => exact hvw.elim
    · cases hs
  · cases hs
theorem ck_z_l2 {f : Int64 → Int64 → Int64} (g : ck_g SP β A lv st h) (hs : ck_l2 pc A = some l) : ck_fs SP Mo l h (ab_l2 f pc lv st h) := by
  unfold ck_l2 at hs
  split at hs
  · rename_i p q r hst
    have g3 := g.2.2.2.1
    rw [hst] at g3
    split at hs
    · rename_i hk
      cases hs
      match st, g3 with
      | .long b :: .long a :: z, g3 => exact ⟨pc + 1, lv, .long (f a b) :: z, h, _, β, rfl, List.mem_singleton.mpr rfl, ck_sk_ok ⟨rfl, g3.2.2⟩ g, ck_fm.rf⟩
      | .ref b :: _, g3 => exact absurd (hk.1.symm.trans g3.1.1) (by decide)
      | .retAddr b :: _, g3 => exact absurd (hk.1.symm.trans g3.1.1) (by decide)
      | .long b :: .ref a :: z, g3 => exact absurd (hk.2.symm.trans g3.2.1.1) (by decide)
      | .long b :: .retAddr a :: z, g3 => exact absurd (hk.2.symm.trans g3.2.1.1) (by decide)
    · cases hs
  · cases hs
theorem ck_z_dup (g : ck_g SP β A lv st h) (hs : ck_dup pc A = some l) : ck_fs SP Mo l h (ab_dup pc lv st h) := by
  unfold ck_dup at hs
  split at hs
  · rename_i v r hst
    have g3 := g.2.2.2.1
    rw [hst] at g3
    split at hs
    · rename_i hk
      cases hs
      match st, g3 with
      | w :: z, g3 =>
        refine ⟨pc + 1, lv, w :: w :: z, h, _, β, ?_, List.mem_singleton.mpr rfl, ck_sk_ok ⟨g3.1, g3.1, g3.2⟩ g, ck_fm.rf⟩
        exact if_pos (ck_cat1 g3.1 hk)
    · cases hs
  · cases hs
theorem ck_z_pop (g : ck_g SP β A lv st h) (hs : ck_pop pc A = some l) : ck_fs SP Mo l h (ab_pop pc lv st h) := by
  unfold ck_pop at hs
  split at hs
  · rename_i v r hst
    have g3 := g.2.2.2.1
    rw [hst] at g3
    split at hs
    · rename_i hk
      cases hs
      match st, g3 with
      | w :: z, g3 =>
        refine ⟨pc + 1, lv, z, h, _, β, ?_, List.mem_singleton.mpr rfl, ck_sk_ok g3.2 g, ck_fm.rf⟩
        exact if_pos (ck_cat1 g3.1 hk)
    · cases hs
  · cases hs
theorem ck_z_dx1 (g : ck_g SP β A lv st h) (hs : ck_dx1 pc A = some l) : ck_fs SP Mo l h (ab_dx1 pc lv st h) := by
  unfold ck_dx1 at hs
  split at hs
  · rename_i v u r hst
    have g3 := g.2.2.2.1
    rw [hst] at g3
    split at hs
    · rename_i hk
      cases hs
      match st, g3 with
      | w :: y :: z, g3 => exact ⟨pc + 1, lv, w :: y :: w :: z, h, _, β, if_pos ⟨ck_cat1 g3.1 hk.1, ck_cat1 g3.2.1 hk.2⟩, List.mem_singleton.mpr rfl, ck_sk_ok ⟨g3.1, g3.2.1, g3.1, g3.2.2⟩ g, ck_fm.rf⟩
    · cases hs
  · cases hs
theorem ck_z_d2 (g : ck_g SP β A lv st h) (hs : ck_d2 pc A = some l) : ck_fs SP Mo l h (ab_d2 pc lv st h) := by
  unfold ck_d2 at hs
  split at hs
  · rename_i v u r hst
    have g3 := g.2.2.2.1
    rw [hst] at g3
    split at hs
    · rename_i hk
      cases hs
      match st, g3 with
      | w :: y :: z, g3 => exact ⟨pc + 1, lv, w :: y :: w :: y :: z, h, _, β, if_pos ⟨ck_cat1 g3.1 hk.1, ck_cat1 g3.2.1 hk.2⟩, List.mem_singleton.mpr rfl, ck_sk_ok ⟨g3.1, g3.2.1, g3.1, g3.2.1, g3.2.2⟩ g, ck_fm.rf⟩
    · cases hs
  · cases hs
theorem ck_z_il (g : ck_g SP β A lv st h) (hs : ck_il pc A = some l) : ck_fs SP Mo l h (ab_il pc lv st h) := by
  unfold ck_il at hs
  split at hs
  · rename_i v r hst
    have g3 := g.2.2.2.1
    rw [hst] at g3
    cases hs
    match st, g3 with
    | .int a :: z, g3 => exact ⟨pc + 1, lv, .long a.toInt64 :: z, h, _, β, rfl, List.mem_singleton.mpr rfl, ck_sk_ok ⟨rfl, g3.2⟩ g, ck_fm.rf⟩
  · cases hs
theorem ck_z_ls {f : Int64 → Int32 → Int64} (g : ck_g SP β A lv st h) (hs : ck_ls pc A = some l) : ck_fs SP Mo l h (ab_ls f pc lv st h) := by
  unfold ck_ls at hs
  split at hs
  · rename_i v q r hst
    have g3 := g.2.2.2.1
    rw [hst] at g3
    split at hs
    · rename_i hk
      cases hs
      match st, g3 with
      | .int b :: .long a :: z, g3 => exact ⟨pc + 1, lv, .long (f a b) :: z, h, _, β, rfl, List.mem_singleton.mpr rfl, ck_sk_ok ⟨rfl, g3.2.2⟩ g, ck_fm.rf⟩
      | .int b :: .ref a :: z, g3 => exact absurd (hk.symm.trans g3.2.1.1) (by decide)
      | .int b :: .retAddr a :: z, g3 => exact absurd (hk.symm.trans g3.2.1.1) (by decide)
    · cases hs
  · cases hs
theorem ck_z_gs {k : Nat} (g : ck_g SP β A lv st h) (hs : ck_gs k pc A = some l) : ck_fs SP Mo l h (ab_gs k pc lv st h) := by
  unfold ck_gs at hs
  split at hs
  · cases hs
    exact ⟨pc + 3, lv, .retAddr 0 :: st, h, _, β, rfl, List.mem_singleton.mpr rfl, ck_pu_ok (v := .inr (2, 0)) (w := .retAddr 0) ⟨rfl, rfl⟩ g, ck_fm.rf⟩
  · cases hs
    exact ⟨pc + 3, lv, .int 1 :: st, h, _, β, rfl, List.mem_singleton.mpr rfl, ck_pu_ok (ck_kc_ok (x := 1) g.1 g.2.1) g, ck_fm.rf⟩
  · cases hs
    exact ⟨pc + 3, lv, .retAddr 9 :: st, h, _, β, rfl, List.mem_singleton.mpr rfl, ck_pu_ok (v := .inr (2, 9)) (w := .retAddr 9) ⟨rfl, rfl⟩ g, ck_fm.rf⟩
  · cases hs
end CKU
