/-! ===== the checker is sound: ints (draft) ===== -/
theorem ck_bm {z : Int} (h1 : -2147483648 ≤ z) (h2 : z ≤ 2147483647) : z.bmod (2 ^ 32) = z := Int.bmod_eq_of_le (by omega) (by omega)
theorem ck_in_of {lo hi : Int} (h : ck_in lo hi = true) : -2147483648 ≤ lo ∧ hi ≤ 2147483647 := by
  unfold ck_in at h
  rw [Bool.and_eq_true, decide_eq_true_eq, decide_eq_true_eq] at h
  exact h
section CKT
variable {SP : List ck_C} {Mo : List Nat} {β : Nat → Int} {A : ck_S} {lv : ab_L} {st : List Value} {h : ab_H} {l : List (Nat × ck_S)} {pc n i nL : Nat}
/-- what an int step must show -/
def ck_op (SP : List ck_C) (lv : ab_L) (h : ab_H) (f : Int32 → Int32 → Int32) (F : Nat → ck_I → ck_I → ck_S → ck_R) : Prop := ∀ (p : Nat) (x y : ck_I) (A : ck_S) (st : List Value) (l : List (Nat × ck_S)) (β : Nat → Int) (a b : Int32), ck_i β A.2.2.2 x a → ck_i β A.2.2.2 y b → ck_g SP β A lv st h → F p x y A = some l → ∃ A' β', (p, A') ∈ l ∧ ck_g SP β' A' lv (.int (f a b) :: st) h
theorem ck_z_b2 {f : Int32 → Int32 → Int32} {F : Nat → ck_I → ck_I → ck_S → ck_R} (hF : ck_op SP lv h f F) (g : ck_g SP β A lv st h) (hs : ck_b2 F pc A = some l) : ck_fs SP Mo l h (ab_b2 f pc lv st h) := by
  unfold ck_b2 at hs
  split at hs
  · rename_i y x r hst
    have g3 := g.2.2.2.1
    rw [hst] at g3
    match st, g3 with
    | .int b :: .int a :: q, g3 =>
      obtain ⟨A', β', h1, h2⟩ := hF (pc + 1) x y (ck_sk r A) q _ β a b g3.2.1 g3.1 (ck_sk_ok g3.2.2 g) hs
      exact ⟨pc + 1, lv, .int (f a b) :: q, h, A', β', rfl, h1, h2, ck_fm.rf⟩
  · cases hs
theorem ck_nf_ok {p : Nat} {lo hi : Int} {x : Int32} (h1 : lo ≤ x.toInt) (h2 : x.toInt ≤ hi) (g : ck_g SP β A lv st h) (hs : ck_nf p lo hi A = some l) : ∃ A' β', (p, A') ∈ l ∧ ck_g SP β' A' lv (.int x :: st) h := by
  unfold ck_nf at hs
  split at hs
  · cases hs
    obtain ⟨β', g'⟩ := ck_fr_ok h1 h2 g
    exact ⟨_, β', List.mem_singleton.mpr rfl, g'⟩
  · cases hs
theorem ck_all_ok {p : Nat} (x : Int32) (g : ck_g SP β A lv st h) (hs : ck_all p A = some l) : ∃ A' β', (p, A') ∈ l ∧ ck_g SP β' A' lv (.int x :: st) h := by
  cases hs
  obtain ⟨β', g'⟩ := ck_fr_ok (lo := -2147483648) (hi := 2147483647) (x := x) (by have := x.le_toInt; omega) (by have := x.toInt_lt; omega) g
  exact ⟨_, β', List.mem_singleton.mpr rfl, g'⟩
theorem ck_add_ok : ck_op SP lv h (fun x y => x + y) ck_add := by
  intro p x y A st l β a b hx hy g hs
  obtain ⟨x1, x2, x3, x4⟩ := hx
  obtain ⟨y1, y2, y3, y4⟩ := hy
  unfold ck_add at hs
  split at hs
  · rename_i hi
    obtain ⟨i1, i2⟩ := ck_in_of hi
    have e : (a + b).toInt = a.toInt + b.toInt := by rw [Int32.toInt_add, ck_bm (by omega) (by omega)]
    split at hs
    · rename_i h0
      cases hs
      have e0 := g.1
      rw [h0, e0] at y4
      refine ⟨_, β, List.mem_singleton.mpr rfl, ck_pu_ok ⟨x1, ?_, ?_, ?_⟩ g⟩ <;> dsimp only <;> rw [e] <;> omega
    · split at hs
      · rename_i h0
        cases hs
        have e0 := g.1
        rw [h0, e0] at x4
        refine ⟨_, β, List.mem_singleton.mpr rfl, ck_pu_ok ⟨y1, ?_, ?_, ?_⟩ g⟩ <;> dsimp only <;> rw [e] <;> omega
      · cases hs
        obtain ⟨β', g'⟩ := ck_fr_ok (x := a + b) (lo := x.1 + y.1) (hi := x.2.1 + y.2.1) (by rw [e]; omega) (by rw [e]; omega) g
        exact ⟨_, β', List.mem_singleton.mpr rfl, g'⟩
  · cases hs
theorem ck_sub_ok : ck_op SP lv h (fun x y => x - y) ck_sub := by
  intro p x y A st l β a b hx hy g hs
  obtain ⟨x1, x2, x3, x4⟩ := hx
  obtain ⟨y1, y2, y3, y4⟩ := hy
  unfold ck_sub at hs
  split at hs
  · rename_i hi
    obtain ⟨i1, i2⟩ := ck_in_of hi
    have e : (a - b).toInt = a.toInt - b.toInt := by rw [Int32.toInt_sub, ck_bm (by omega) (by omega)]
    split at hs
    · rename_i h0
      cases hs
      have e0 := g.1
      rw [h0, e0] at y4
      refine ⟨_, β, List.mem_singleton.mpr rfl, ck_pu_ok ⟨x1, ?_, ?_, ?_⟩ g⟩ <;> dsimp only <;> rw [e] <;> omega
    · cases hs
      obtain ⟨β', g'⟩ := ck_fr_ok (x := a - b) (lo := x.1 - y.2.1) (hi := x.2.1 - y.1) (by rw [e]; omega) (by rw [e]; omega) g
      exact ⟨_, β', List.mem_singleton.mpr rfl, g'⟩
  · cases hs
theorem ck_z_if {c : ClassFile.Cond} {off : Int} (g : ck_g SP β A lv st h) (hs : ck_if c off pc A = some l) : ck_fs SP Mo l h (ab_if c off pc lv st h) := by
  unfold ck_if at hs
  split at hs
  · rename_i x r hst
    have g3 := g.2.2.2.1
    rw [hst] at g3
    match st, g3 with
    | .int a :: q, g3 =>
      have g' := ck_sk_ok (h := h) g3.2 g
      have hz : ck_i β (ck_sk r A).2.2.2 ck_zero 0 := ⟨g.2.1, Int.le_refl _, Int.le_refl _, by show (0 : Int) = β 0 + 0; rw [g.1]; rfl⟩
      unfold ck_ic ck_jn at hs
      split at hs
      · rename_i l1 l2 h1 h2
        cases hs
        by_cases hc : ab_cd c a 0 = true
        · obtain ⟨B, b1, b2⟩ := ck_br_ok (A := ck_sk r A) (c := c) g3.1 hz ((ab_cd_i c a 0).mp hc) g'
          rw [b1] at h1
          unfold ck_to at h1
          dsimp only at h1
          split at h1
          · rename_i hp
            cases h1
            refine ⟨_, lv, q, h, B, β, ?_, List.mem_append_left _ (List.mem_singleton.mpr rfl), b2, ck_fm.rf⟩
            show (if ab_cd c a 0 = true then ab_jp pc off lv q h else some (pc + 3, lv, q, h)) = _
            rw [if_pos hc]
            exact if_pos hp
          · cases h1
        · obtain ⟨B, b1, b2⟩ := ck_br_ok (A := ck_sk r A) (c := ck_ng c) g3.1 hz (ck_ng_ok (fun k => hc ((ab_cd_i c a 0).mpr k))) g'
          rw [b1] at h2
          unfold ck_to at h2
          dsimp only at h2
          split at h2
          · cases h2
            refine ⟨pc + 3, lv, q, h, B, β, ?_, List.mem_append_right _ (List.mem_singleton.mpr (by congr 1)), b2, ck_fm.rf⟩
            show (if ab_cd c a 0 = true then ab_jp pc off lv q h else some (pc + 3, lv, q, h)) = _
            rw [if_neg hc]
          · cases h2
      · cases hs
  · cases hs
end CKT
