/-! ===== the checker is sound: the heap ===== -/
section CKY
variable {SP : List ck_C} {Mo : List Nat} {β : Nat → Int} {A : ck_S} {lv : ab_L} {st : List Value} {h : ab_H} {l : List (Nat × ck_S)} {pc n i nL : Nat}
theorem ck_at_ok {a : Nat} {c : ck_C} (hc : ck_at SP a = some c) (hh : ck_h SP h) : ab_rd h a = some (h.2.2 a) ∧ ck_c c (h.2.2 a) ∧ a ≠ 0 := by
  cases a with
  | zero => cases hc
  | succ k =>
    have hk : SP[k]? = some c := hc
    have hl : k < SP.length := (List.getElem?_eq_some_iff.mp hk).1
    refine ⟨?_, hh.2 k c hk, Nat.succ_ne_zero k⟩
    unfold ab_rd
    rw [if_pos (by rw [hh.1]; omega)]
theorem ck_idx_of {v : ck_I} {x : Int32} {nx m : Nat} (hx : ck_i β nx v x) (hk : ck_idx v m = true) : ab_in x m = true ∧ x.toNatClampNeg < m := by
  unfold ck_idx at hk
  rw [Bool.and_eq_true, decide_eq_true_eq, decide_eq_true_eq] at hk
  obtain ⟨-, x2, x3, -⟩ := hx
  have h0 : 0 ≤ x.toInt := by omega
  have h1 : x.toInt < m := by omega
  have h2 : x.toNatClampNeg < m := by
    show x.toInt.toNat < m
    omega
  refine ⟨?_, h2⟩
  unfold ab_in
  rw [decide_eq_false (fun q => by
    have q := Int32.lt_iff_toInt_lt.mp q
    have e : (0 : Int32).toInt = 0 := rfl
    omega), decide_eq_false (by omega)]
  rfl
theorem ck_z_neg (g : ck_g SP β A lv st h) (hs : ck_neg pc A = some l) : ck_fs SP Mo l h (ab_b1 (fun x => -x) pc lv st h) := by
  unfold ck_neg at hs
  split at hs
  · rename_i x r hst
    have g3 := g.2.2.2.1
    rw [hst] at g3
    match st, g3 with
    | .int a :: q, g3 =>
      obtain ⟨x1, x2, x3, x4⟩ := g3.1
      have hi : ck_in (-x.2.1) (-x.1) = true := by
        unfold ck_nf at hs
        split at hs
        · assumption
        · cases hs
      obtain ⟨i1, i2⟩ := ck_in_of hi
      have e : (-a).toInt = -a.toInt := by rw [Int32.toInt_neg, ck_bm (by omega) (by omega)]
      obtain ⟨A', β', h1, h2⟩ := ck_nf_ok (x := -a) (by rw [e]; omega) (by rw [e]; omega) (ck_sk_ok g3.2 g) hs
      exact ⟨pc + 1, lv, .int (-a) :: q, h, A', β', rfl, h1, h2, ck_fm.rf⟩
  · cases hs
end CKY
