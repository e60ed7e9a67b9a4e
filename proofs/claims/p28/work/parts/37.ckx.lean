/-! ===== the checker is sound: iinc, the other compare, switches ===== -/
section CKX
variable {SP : List ck_C} {Mo : List Nat} {β : Nat → Int} {A : ck_S} {lv : ab_L} {st : List Value} {h : ab_H} {l : List (Nat × ck_S)} {pc n i nL : Nat}
theorem ck_z_inc {k : Int} (g : ck_g SP β A lv st h) (hs : ck_inc nL i k pc A = some l) : ck_fs SP Mo l h (ab_inc nL i k pc lv st h) := by
  unfold ck_inc at hs
  split at hs
  · rename_i v hv
    split at hs
    · rename_i hk
      cases hs
      obtain ⟨w, hw, hvw⟩ := g.2.2.1 i _ (ck_lk_mem hv)
      cases w with
      | int x =>
        obtain ⟨k1, k2⟩ := ck_in_of hk.2.1
        obtain ⟨k3, k4⟩ := ck_in_of hk.2.2
        obtain ⟨x1, x2, x3, x4⟩ := hvw
        have e0 : (Int32.ofInt k).toInt = k := by rw [Int32.toInt_ofInt, ck_bm k3 k4]
        have e : (x + Int32.ofInt k).toInt = x.toInt + k := by rw [Int32.toInt_add, e0, ck_bm (by omega) (by omega)]
        refine ⟨pc + 3, ab_s1 i (.int (x + Int32.ofInt k)) lv, st, h, _, β, ?_, List.mem_singleton.mpr rfl, ck_s1_ok (v := .inl (v.1 + k, v.2.1 + k, v.2.2.1, v.2.2.2 + k)) (w := .int (x + Int32.ofInt k)) ⟨x1, ?_, ?_, ?_⟩ g.2.2.2.1 g, ck_fm.rf⟩
        · unfold ab_inc
          rw [hw]
          exact if_pos hk.1
        · dsimp only; rw [e]; omega
        · dsimp only; rw [e]; omega
        · dsimp only; rw [e]; omega
      | _ => exact hvw.elim
    · cases hs
  · cases hs
theorem ck_z_ic {c : ClassFile.Cond} {off : Int} (g : ck_g SP β A lv st h) (hs : ck_ic2 c off pc A = some l) : ck_fs SP Mo l h (ab_ic c off pc lv st h) := by
  unfold ck_ic2 at hs
  split at hs
  · rename_i y x r hst
    have g3 := g.2.2.2.1
    rw [hst] at g3
    match st, g3 with
    | .int b :: .int a :: q, g3 =>
      have g' := ck_sk_ok (h := h) g3.2.2 g
      unfold ck_ic ck_jn at hs
      split at hs
      · rename_i l1 l2 h1 h2
        cases hs
        by_cases hc : ab_cd c a b = true
        · obtain ⟨B, b1, b2⟩ := ck_br_ok (A := ck_sk r A) (c := c) g3.2.1 g3.1 ((ab_cd_i c a b).mp hc) g'
          rw [b1] at h1
          unfold ck_to at h1
          dsimp only at h1
          split at h1
          · rename_i hp
            cases h1
            refine ⟨_, lv, q, h, B, β, ?_, List.mem_append_left _ (List.mem_singleton.mpr rfl), b2, ck_fm.rf⟩
            show (if ab_cd c a b = true then ab_jp pc off lv q h else some (pc + 3, lv, q, h)) = _
            rw [if_pos hc]
            exact if_pos hp
          · cases h1
        · obtain ⟨B, b1, b2⟩ := ck_br_ok (A := ck_sk r A) (c := ck_ng c) g3.2.1 g3.1 (ck_ng_ok (fun k => hc ((ab_cd_i c a b).mpr k))) g'
          rw [b1] at h2
          unfold ck_to at h2
          dsimp only at h2
          split at h2
          · cases h2
            refine ⟨pc + 3, lv, q, h, B, β, ?_, List.mem_append_right _ (List.mem_singleton.mpr (by congr 1)), b2, ck_fm.rf⟩
            show (if ab_cd c a b = true then ab_jp pc off lv q h else some (pc + 3, lv, q, h)) = _
            rw [if_neg hc]
          · cases h2
      · cases hs
  · cases hs
theorem ck_z_gx {f : Nat} (g : ck_g SP β A lv st h) (hs : ck_gx f pc A = some l) : ck_fs SP Mo l h (ab_gx f pc lv st h) := by
  unfold ck_gx at hs
  split at hs
  · rename_i k r hst
    have g3 := g.2.2.2.1
    rw [hst] at g3
    split at hs
    · rename_i hk
      match st, g3 with
      | .retAddr j :: z, g3 =>
        have e : k = j := g3.1.2
        subst e
        split at hs
        · rename_i hf
          cases hs
          refine ⟨pc + 3, lv, .retAddr (k + 10) :: z, h, _, β, ?_, List.mem_singleton.mpr rfl, ck_sk_ok ⟨⟨rfl, rfl⟩, g3.2⟩ g, ck_fm.rf⟩
          unfold ab_gx
          dsimp only
          rw [if_pos hk, if_pos hf]
        · rename_i hf
          cases hs
          refine ⟨pc + 3, lv, .int 0 :: z, h, _, β, ?_, List.mem_singleton.mpr rfl, ck_sk_ok ⟨ck_kc_ok (x := 0) g.1 g.2.1, g3.2⟩ g, ck_fm.rf⟩
          unfold ab_gx
          dsimp only
          rw [if_pos hk, if_neg hf]
      | .long b :: _, g3 => exact absurd (show (2 : Nat) = 0 from g3.1) (by decide)
      | .ref b :: _, g3 => exact absurd (show (2 : Nat) = 1 from g3.1.1) (by decide)
    · cases hs
  · cases hs
end CKX
