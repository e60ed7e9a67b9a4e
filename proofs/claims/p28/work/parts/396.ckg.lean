/-! ===== the checker is sound: stores into arrays of ints ===== -/
section CKG
variable {SP : List ck_C} {Mo : List Nat} {β : Nat → Int} {A : ck_S} {lv : ab_L} {st : List Value} {h : ab_H} {l : List (Nat × ck_S)} {pc : Nat}
/-- an array's cell is written by what its words allow -/
theorem ck_g_arr {a : Nat} {c : ck_C} {x y : Nat × Nat × ab_C} {r : List ck_V} {q : List Value} (hat : ck_at SP a = some c) (hr : ab_rd h a = some (.inl x)) (hy : ck_c c (.inl y)) (hq : ck_st β A.2.2.2 r q) (g : ck_g SP β A lv st h) : ck_g SP β (ck_sk r A) lv q (ab_wr h a (.inl y)) := by
  obtain ⟨g0, g1, g2, g3, g4, g5⟩ := g
  refine ⟨g0, g1, g2, hq, fun k v hv => ?_, ck_h_wr hat hy g5⟩
  obtain ⟨z, z1, z2⟩ := g4 k v hv
  exact ⟨z, (ck_fd_arr hr).trans z1, z2⟩
theorem ck_fm_arr {a : Nat} {x y : Nat × Nat × ab_C} (hr : ab_rd h a = some (.inl x)) (hm : ck_key a 63 ∈ Mo) : ck_fm Mo h (ab_wr h a (.inl y)) := by
  refine ⟨rfl, rfl, fun k _ => ck_fd_arr hr, fun b hb => ?_⟩
  have hne : b ≠ a := fun e => hb 63 (by decide) (by rw [e]; exact hm)
  exact va_up_ne _ _ hne
theorem ck_z_ias (g : ck_g SP β A lv st h) (hs : ck_ias SP Mo [0] pc A = some l) : ck_fs SP Mo l h (ab_ias pc lv st h) := by
  unfold ck_ias at hs
  split at hs
  · rename_i v i a r hst
    have g3 := g.2.2.2.1
    rw [hst] at g3
    split at hs
    · rename_i t m lo hi cs hat
      split at hs
      · rename_i hk
        obtain ⟨k1, k2, k3, k4, k5, k6, k7, k8, k9⟩ := hk
        have ht : t = 0 := by simpa using k1
        subst ht
        cases hs
        obtain ⟨r1, r2, r3⟩ := ck_at_ok hat g.2.2.2.2.2
        obtain ⟨f, ef, hf⟩ := ck_c_int r2 ⟨by decide, by decide⟩
        rw [ef] at r1
        match st, g3 with
        | .int x :: .int j :: .ref b :: q, g3 =>
          have e : a = b := g3.2.2.1.2
          subst e
          obtain ⟨j1, j2⟩ := ck_idx_of g3.2.1 k4
          obtain ⟨-, x2, x3, -⟩ := g3.1
          refine ⟨pc + 1, lv, q, ab_wr h a (.inl (0, m, .inl (upd f j.toNatClampNeg x))), _, β, ?_, List.mem_singleton.mpr rfl, ck_g_arr hat r1 ?_ g3.2.2.2 g, ck_fm_arr r1 (List.contains_iff_mem.mp k9)⟩
          · unfold ab_ias
            simp only [r1]
            rw [if_pos ⟨j1, r3⟩]
          · refine ⟨rfl, rfl, Or.inl rfl, fun p hp => ?_⟩
            unfold upd
            split
            · omega
            · exact hf p hp
        | .int x :: .int j :: .long b :: _, g3 => exact absurd (show (1 : Nat) = 0 from g3.2.2.1) (by decide)
        | .int x :: .int j :: .retAddr b :: _, g3 => exact absurd (show (1 : Nat) = 2 from g3.2.2.1.1) (by decide)
      · cases hs
    · cases hs
  · split at hs
    · split at hs
      · rename_i hk
        obtain ⟨k1, k2, -⟩ := hk
        rw [k2] at k1
        exact absurd k1 (by decide)
      · cases hs
    · cases hs
  · cases hs
end CKG
