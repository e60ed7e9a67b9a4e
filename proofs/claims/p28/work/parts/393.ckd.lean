/-! ===== the checker is sound: getfield ===== -/
section CKD
variable {SP : List ck_C} {Mo : List Nat} {β : Nat → Int} {A : ck_S} {lv : ab_L} {st : List Value} {h : ab_H} {l : List (Nat × ck_S)} {pc : Nat}
theorem ck_z_get {ci k : Nat} (g : ck_g SP β A lv st h) (hs : ck_get SP ci k pc A = some l) : ck_fs SP Mo l h (ab_get ci k pc lv st h) := by
  unfold ck_get at hs
  split at hs
  · rename_i a r hst
    have g3 := g.2.2.2.1
    rw [hst] at g3
    split at hs
    · rename_i cj fs hat
      split at hs
      · rename_i hk
        obtain ⟨hcj, hk64⟩ := hk
        subst hcj
        obtain ⟨r1, r2, -⟩ := ck_at_ok hat g.2.2.2.2.2
        obtain ⟨ws, ew, hlen, hws⟩ := ck_c_obj r2
        rw [ew] at r1
        have hfd := ck_fd_of hk64 r1
        match st, g3 with
        | .ref b :: q, g3 =>
          have e : a = b := g3.1.2
          subst e
          have hget : ∀ w, ws[k]? = some w → ab_get cj k pc lv (.ref a :: q) h = some (pc + 3, lv, w :: q, h) := fun w hw => by
            unfold ab_get
            simp only [r1, if_pos, hw]
          have hex : ∀ f, fs[k]? = some f → ∃ w, ws[k]? = some w ∧ ck_fv f w := fun f hf => by
            have hkl : k < ws.length := by rw [← hlen]; exact (List.getElem?_eq_some_iff.mp hf).1
            exact ⟨ws[k], List.getElem?_eq_getElem hkl, hws k f _ hf (List.getElem?_eq_getElem hkl)⟩
          split at hs
          · rename_i lo hi cs hf
            obtain ⟨w, hw, hfw⟩ := hex _ hf
            split at hs
            · rename_i v hv
              cases hs
              obtain ⟨x, x1, x2⟩ := g.2.2.2.2.1 _ _ (ck_lf_mem hv)
              rw [hfd] at x1
              exact ⟨pc + 3, lv, .int x :: q, h, _, β, hget _ x1, List.mem_singleton.mpr rfl, ck_sk_ok ⟨x2, g3.2⟩ g, ck_fm.rf⟩
            · cases hs
              cases w with
              | int x =>
                obtain ⟨g0, g1, g2, g4, g5, g6⟩ := g
                refine ⟨pc + 3, lv, .int x :: q, h, _, ck_ext β A.2.2.2 x.toInt, hget _ hw, List.mem_singleton.mpr rfl, ⟨(ck_ext_lt 0 g1).trans g0, Nat.succ_pos _, fun i u hu => ?_, ⟨ck_ext_i hfw.2.1 hfw.2.2, ck_st_up (Nat.le_succ _) ck_ext_lt g3.2⟩, fun j u hu => ?_, g6⟩, ck_fm.rf⟩
                · obtain ⟨y, y1, y2⟩ := g2 i u hu
                  exact ⟨y, y1, ck_v_up (Nat.le_succ _) ck_ext_lt y2⟩
                · rcases List.mem_cons.mp hu with e | hu
                  · cases e
                    exact ⟨x, hfd.trans hw, ck_ext_i hfw.2.1 hfw.2.2⟩
                  · obtain ⟨y, y1, y2⟩ := g5 j u (List.mem_filter.mp hu).1
                    exact ⟨y, y1, ck_i_up (Nat.le_succ _) ck_ext_lt y2⟩
              | long x => exact absurd (show (0 : Nat) = 1 from hfw) (by decide)
              | ref x => exact absurd (show (0 : Nat) = 2 from hfw.1) (by decide)
              | _ => exact hfw.elim
          · rename_i lo hi cs hf
            obtain ⟨w, hw, hfw⟩ := hex _ hf
            cases hs
            cases w with
            | int x => exact absurd (show (1 : Nat) = 0 from hfw.1) (by decide)
            | long x => exact ⟨pc + 3, lv, .long x :: q, h, _, β, hget _ hw, List.mem_singleton.mpr rfl, ck_sk_ok ⟨rfl, g3.2⟩ g, ck_fm.rf⟩
            | ref x => exact absurd (show (1 : Nat) = 2 from hfw.1) (by decide)
            | _ => exact hfw.elim
          · rename_i lo hi cs hf
            obtain ⟨w, hw, hfw⟩ := hex _ hf
            cases hs
            cases w with
            | int x => exact absurd (show (2 : Nat) = 0 from hfw.1) (by decide)
            | long x => exact absurd (show (2 : Nat) = 1 from hfw) (by decide)
            | ref x => exact ⟨pc + 3, lv, .ref x :: q, h, _, β, hget _ hw, List.mem_map.mpr ⟨x, hfw.2, rfl⟩, ck_sk_ok ⟨⟨rfl, rfl⟩, g3.2⟩ g, ck_fm.rf⟩
            | _ => exact hfw.elim
          · cases hs
        | .long b :: _, g3 => exact absurd (show (1 : Nat) = 0 from g3.1) (by decide)
        | .retAddr b :: _, g3 => exact absurd (show (1 : Nat) = 2 from g3.1.1) (by decide)
      · cases hs
    · cases hs
  · cases hs
end CKD
