/-! ===== the wider checker is sound: arrays ===== -/
section SXA
variable {SP : List sx_C} {z L : Nat} {xs : Nat → Int32} {Mo : List Nat} {β : Nat → Int} {A B : sx_S} {lv lv' : ab_L} {st st' : List Value} {h h' : ab_H} {l : List (Nat × sx_S)} {pc p n i nL nx : Nat}
theorem sx_c_i {t m : Nat} {ps : List (Int × Int)} {cs : List Nat} {e : ab_E} (hc : sx_c (.inl (t, m, ps, cs)) e) (h2 : t ≠ 2) (h4 : t ≠ 4) : ∃ f, e = .inl (t, m, .inl f) ∧ ∀ j, j < m → sx_pc ps (f j).toInt := by
  match e, hc with
  | .inl (t', n', .inl f), hc =>
    obtain ⟨e1, e2, -, h4⟩ := hc
    subst e1
    subst e2
    exact ⟨f, rfl, h4⟩
  | .inl (t', n', .inr (.inl f)), hc => exact absurd hc.2.2 h2
  | .inl (t', n', .inr (.inr f)), hc => exact absurd hc.2.2.1 h4
theorem sx_c_l {m : Nat} {ps : List (Int × Int)} {cs : List Nat} {e : ab_E} (hc : sx_c (.inl (2, m, ps, cs)) e) : ∃ f, e = .inl (2, m, .inr (.inl f)) := by
  match e, hc with
  | .inl (t', n', .inl f), hc =>
    obtain ⟨-, -, h3, -⟩ := hc
    exact absurd h3 (by decide)
  | .inl (t', n', .inr (.inl f)), hc =>
    obtain ⟨e1, e2, -⟩ := hc
    subst e1
    subst e2
    exact ⟨f, rfl⟩
  | .inl (t', n', .inr (.inr f)), hc => exact absurd hc.2.2.1 (by decide)
theorem sx_c_r {m : Nat} {ps : List (Int × Int)} {cs : List Nat} {e : ab_E} (hc : sx_c (.inl (4, m, ps, cs)) e) : ∃ f, e = .inl (4, m, .inr (.inr f)) ∧ ∀ j, j < m → ∃ a, f j = some a ∧ cs[j]? = some a := by
  match e, hc with
  | .inl (t', n', .inl f), hc =>
    obtain ⟨-, -, h3, -⟩ := hc
    exact absurd h3 (by decide)
  | .inl (t', n', .inr (.inl f)), hc => exact absurd hc.2.2 (by decide)
  | .inl (t', n', .inr (.inr f)), hc =>
    obtain ⟨e1, e2, -, h4⟩ := hc
    subst e1
    subst e2
    exact ⟨f, rfl, h4⟩
theorem sx_ab_in {x : Int32} {m : Nat} (h0 : 0 ≤ x.toInt) (h1 : x.toInt < m) : ab_in x m = true ∧ x.toNatClampNeg < m := by
  have h2 : x.toNatClampNeg < m := by
    show x.toInt.toNat < m
    omega
  refine ⟨?_, h2⟩
  unfold ab_in
  rw [decide_eq_false (fun q => by
    have q := Int32.lt_iff_toInt_lt.mp q
    have e : (0 : Int32).toInt = 0 := rfl
    omega), decide_eq_false (by omega)]
  rfl
theorem sx_ix_ok {e : sx_E} {x : Int32} {m : Nat} (g : sx_at SP z L xs A β lv st h) (hx : x.toInt = sx_ev β e) (hi : sx_ix A m e = true) : ab_in x m = true ∧ x.toNatClampNeg < m ∧ 0 ≤ sx_ev β e ∧ sx_ev β e < m := by
  have hb := sx_in_ok g.nf hi
  have h0 := sx_ab_in (x := x) (m := m) (by omega) (by omega)
  exact ⟨h0.1, h0.2, by omega, by omega⟩
theorem sx_le2_mem {a : Nat} {e : sx_E} {v : sx_V} : ∀ {el : List (Nat × sx_E × sx_V)}, sx_le2 a e el = some v → (a, e, v) ∈ el
  | [], h => by cases h
  | q :: r, h => by
    unfold sx_le2 at h
    by_cases hq : q.1 = a ∧ q.2.1 = e
    · rw [if_pos hq] at h
      cases h
      rw [← hq.1, ← hq.2]
      exact List.mem_cons_self
    · rw [if_neg hq] at h
      exact List.mem_cons_of_mem _ (sx_le2_mem h)
/-- a known element -/
theorem sx_el_i {a t m : Nat} {f : Nat → Int32} {e : sx_E} {v : sx_V} {x : Int32} (hr : ab_rd h a = some (.inl (t, m, .inl f))) (hx : x.toInt = sx_ev β e) (he : sx_el β (a, e, v) h) : sx_v β v (.int (f x.toNatClampNeg)) := by
  unfold sx_el at he
  rw [hr] at he
  have h3 := he.2.2
  rw [← hx] at h3
  exact h3
theorem sx_el_l {a t m : Nat} {f : Nat → Int64} {e : sx_E} {v : sx_V} {x : Int32} (hr : ab_rd h a = some (.inl (t, m, .inr (.inl f)))) (hx : x.toInt = sx_ev β e) (he : sx_el β (a, e, v) h) : sx_v β v (.long (f x.toNatClampNeg)) := by
  unfold sx_el at he
  rw [hr] at he
  have h3 := he.2.2
  rw [← hx] at h3
  exact h3
/-- a new element -/
theorem sx_eln_ok {kd a : Nat} {e : sx_E} {w : Value} {y : Int} {b : Int × Int} (g : sx_ok SP z L xs A β lv st h) (hk : sx_vk kd w y) (h1 : b.1 ≤ y) (h2 : y ≤ b.2) (hl : sx_eln kd a e p A b ∈ l) (hel : ∀ β', sx_ag (sx_nx A) β β' → ∀ v, sx_v β' v w → sx_el β' (a, e, v) h) : sx_t1 SP z L xs A β l p lv (w :: st) h := by
  refine ⟨_, _, hl, Nat.le_succ _, sx_bu_ag, sx_ok.nw2 g y rfl (fun β' ha g' hv => ?_)⟩
  have hv0 : sx_v β' (.inl (kd, sx_Y (sx_nx A))) w := hk.v (by rw [sx_ev_Y, hv])
  have g2 := g'.new (a := b.1) (b := b.2) (by rw [hv]; exact h1) (by rw [hv]; exact h2)
  refine ⟨g2.1, ⟨hv0, g2.2.1⟩, g2.2.2.1, fun q hq => ?_, g2.2.2.2.2⟩
  rcases List.mem_append.mp hq with hq | hq
  · exact g2.2.2.2.1 q hq
  · rw [List.mem_singleton] at hq
    subst hq
    exact hel β' ha _ hv0
theorem sx_aal_ok {e : sx_E} {x : Int} {b : Nat} (g : sx_ok SP z L xs A β lv st h) (hx : ∀ β', sx_ag (sx_nx A) β β' → x = sx_ev β' e) : ∀ {cs : List Nat} {j k : Nat}, cs[k]? = some b → x = ((j + k : Nat) : Int) → (∀ q ∈ sx_aal p e A cs j, q ∈ l) → sx_t1 SP z L xs A β l p lv (.ref b :: st) h := by
  intro cs
  induction cs with
  | nil => intro j k hk; cases hk
  | cons c r ih =>
    intro j k hk hxe hsub
    unfold sx_aal at hsub
    cases k with
    | zero =>
      cases hk
      obtain ⟨B, h1, h2, h3⟩ := sx_cd_ok (c := .eq) (e := sx_ak e (-(j : Int))) g (sx_sg.of (x := 0) (fun β' ha => by rw [sx_ev_ak, ← hx β' ha]; omega)) (fun β' ha => by
        show sx_ev β' (sx_ak e _) = 0
        rw [sx_ev_ak, ← hx β' ha]
        omega)
      exact ⟨sx_p (.inr (1, b)) B, β, hsub _ (List.mem_append_left _ (List.mem_map.mpr ⟨B, h1, rfl⟩)), Nat.le_of_eq h2.symm, sx_ag.rf, h3.pu (fun β' _ => rfl)⟩
    | succ k => exact ih hk (by omega) (fun q hq => hsub q (List.mem_append_right _ hq))
/-- loads: what the machine does, by kind -/
theorem sx_z_ald2 {ts : List Nat} {R : List Value → Option ab_S}
    (Hi : ∀ (a t m : Nat) (f : Nat → Int32) (x : Int32) (q : List Value), ts.contains t = true → t ≠ 2 → t ≠ 4 → ab_rd h a = some (.inl (t, m, .inl f)) → ab_in x m = true → R (.int x :: .ref a :: q) = some (pc + 1, lv, .int (f x.toNatClampNeg) :: q, h))
    (Hl : ∀ (a m : Nat) (f : Nat → Int64) (x : Int32) (q : List Value), ts.contains 2 = true → ab_rd h a = some (.inl (2, m, .inr (.inl f))) → ab_in x m = true → R (.int x :: .ref a :: q) = some (pc + 1, lv, .long (f x.toNatClampNeg) :: q, h))
    (Hr : ∀ (a m : Nat) (f : Nat → Option Nat) (x : Int32) (q : List Value), ts.contains 4 = true → ab_rd h a = some (.inl (4, m, .inr (.inr f))) → ab_in x m = true → R (.int x :: .ref a :: q) = some (pc + 1, lv, va_rf (f x.toNatClampNeg) :: q, h))
    (H0 : ∀ (x : Int32) (q : List Value), ts = [2] → ab_in x 6 = true → R (.int x :: .retAddr 0 :: q) = some (pc + 1, lv, .long (ab_hi x.toNatClampNeg) :: q, h))
    (H1 : ∀ (k : Nat) (x : Int32) (q : List Value), ts = [1, 3] → (11 ≤ k ∧ k ≤ 14) → ab_in x (ab_xt (k - 11)).length = true → R (.int x :: .retAddr k :: q) = some (pc + 1, lv, .int ((ab_xt (k - 11)).getD x.toNatClampNeg 0) :: q, h))
    (g : sx_ok SP z L xs A β lv st h) (hs : sx_ial SP ts pc A = some l) : sx_to SP z L xs Mo (sx_nx A) β h l (R st) := by
  unfold sx_ial at hs
  split at hs
  · rename_i e a r hst
    obtain ⟨x, q1, rfl, hx, h1⟩ := sx_pi (g.sts hst)
    obtain ⟨q, rfl, h2⟩ := sx_pr h1
    have gg := g.stk h2
    split at hs
    · split at hs
      · rename_i b hb
        split at hs
        · rename_i hc
          obtain ⟨hts, hc1, hc2⟩ := hc
          have hh := g.at.2.2.2.2.2.2
          have hr : ab_rd h 0 = some (.inl (0, L, .inl xs)) := by
            unfold ab_rd
            rw [if_pos (by rw [hh.1]; omega), hh.2.2.1]
          obtain ⟨w, hw, hv⟩ := g.fk hb
          have hw2 : w = .int (Int32.ofNat L) := by
            have : sx_fd h 126 = some (.int (Int32.ofNat L)) := by
              unfold sx_fd
              rw [show 126 / 128 = 0 by decide, hr]
              rfl
            rw [this] at hw
            exact (Option.some.inj hw).symm
          subst hw2
          have k1 := sx_le_ok g.at.nf hc1
          have k2 := sx_le_ok g.at.nf hc2
          have hL : (Int32.ofNat L).toInt = sx_ev β b := hv β sx_ag.rf
          rw [sx_ev_neg] at k1
          rw [sx_ev_ak, sx_ev_sub, ← hL] at k2
          have hx0 := hx β sx_ag.rf
          have hle : (Int32.ofNat L).toInt ≤ L := by
            have : (Int32.ofNat L).toInt = (L : Int).bmod (2 ^ 32) := Int32.toInt_ofNat'
            rw [this]
            by_cases hs2 : L < 2147483648
            · rw [sx_bm (by omega) (by omega)]
              exact Int.le_refl _
            · have := @Int.bmod_lt (L : Int) (2 ^ 32) (by decide)
              omega
          have hin := sx_ab_in (x := x) (m := L) (by omega) (by omega)
          have hm := Hi 0 0 L xs x q (by rw [hts]; decide) (by decide) (by decide) hr hin.1
          split at hs
          · rename_i v hv2
            cases hs
            exact sx_to.one hm rfl rfl (gg.pu (fun β' ha => sx_el_i hr (hx β' ha) ((g β' ha).2.2.2.1 _ (sx_le2_mem hv2))))
          · cases hs
            have b1 := (xs x.toNatClampNeg).le_toInt
            have b2 := (xs x.toNatClampNeg).toInt_lt
            refine sx_t1.to (A := sx_k r A) (sx_eln_ok gg (sx_vi _) (b := (-2147483648, 2147483647)) (by dsimp only; omega) (by dsimp only; omega) (List.mem_singleton.mpr rfl) (fun β' ha v hv => ?_)) hm
            unfold sx_el
            rw [hr]
            have hx1 := hx β' ha
            dsimp only
            rw [← hx1]
            exact ⟨by omega, by omega, hv⟩
        · cases hs
      · cases hs
    · split at hs
      · rename_i t m ps cs hcel
        split at hs
        · rename_i hc
          obtain ⟨r1, r2, r3⟩ := sx_cel_ok hcel g.at.2.2.2.2.2.2
          obtain ⟨i1, i2, i3, i4⟩ := sx_ix_ok g.at (hx β sx_ag.rf) hc.2
          split at hs
          · rename_i ht
            subst ht
            cases hs
            obtain ⟨f, ef, hf⟩ := sx_c_r r2
            rw [ef] at r1
            obtain ⟨b, fb, cb⟩ := hf _ i2
            have hm := Hr a m f x q hc.1 r1 i1
            rw [fb] at hm
            refine sx_t1.to (A := sx_k r A) (sx_aal_ok (x := x.toInt) (j := 0) gg hx cb ?_ (fun q hq => hq)) hm
            show x.toInt = ((0 + x.toInt.toNat : Nat) : Int)
            have := hx β sx_ag.rf
            omega
          · rename_i ht
            by_cases ht2 : t = 2
            · subst ht2
              obtain ⟨f, ef⟩ := sx_c_l r2
              rw [ef] at r1
              have hm := Hl a m f x q hc.1 r1 i1
              split at hs
              · rename_i v hv2
                cases hs
                exact sx_to.one hm rfl rfl (gg.pu (fun β' ha => sx_el_l r1 (hx β' ha) ((g β' ha).2.2.2.1 _ (sx_le2_mem hv2))))
              · rw [if_pos rfl] at hs
                cases hs
                have b1 := (f x.toNatClampNeg).le_toInt
                have b2 := (f x.toNatClampNeg).toInt_lt
                refine sx_t1.to (A := sx_k r A) (sx_eln_ok gg (sx_vl _) (b := (-9223372036854775808, 9223372036854775807)) (by dsimp only; omega) (by dsimp only; omega) (List.mem_singleton.mpr rfl) (fun β' ha v hv => ?_)) hm
                unfold sx_el
                rw [r1]
                have hx1 := hx β' ha
                have hx2 := hx β sx_ag.rf
                dsimp only
                rw [← hx1]
                exact ⟨by omega, by omega, hv⟩
            · obtain ⟨f, ef, hf⟩ := sx_c_i r2 ht2 ht
              rw [ef] at r1
              have hm := Hi a t m f x q hc.1 ht2 ht r1 i1
              split at hs
              · rename_i v hv2
                cases hs
                exact sx_to.one hm rfl rfl (gg.pu (fun β' ha => sx_el_i r1 (hx β' ha) ((g β' ha).2.2.2.1 _ (sx_le2_mem hv2))))
              · rw [if_neg ht2] at hs
                cases hs
                obtain ⟨b, hb, b1, b2⟩ := hf _ i2
                refine sx_t1.to (A := sx_k r A) (sx_eln_ok gg (sx_vi _) (b := b) b1 b2 (List.mem_map.mpr ⟨b, hb, rfl⟩) (fun β' ha v hv => ?_)) hm
                unfold sx_el
                rw [r1]
                have hx1 := hx β' ha
                have hx2 := hx β sx_ag.rf
                dsimp only
                rw [← hx1]
                exact ⟨by omega, by omega, hv⟩
        · cases hs
      · cases hs
  · rename_i e k r hst
    obtain ⟨x, q1, rfl, hx, h1⟩ := sx_pi (g.sts hst)
    obtain ⟨q, rfl, h2⟩ := sx_px h1
    have gg := g.stk h2
    split at hs
    · rename_i hc
      obtain ⟨hts, hk, hi⟩ := hc
      subst hk
      obtain ⟨i1, -⟩ := sx_ix_ok g.at (hx β sx_ag.rf) hi
      exact sx_t1.to (A := sx_k r A) (sx_full_ok (sx_vl _) gg hs) (H0 x q hts i1)
    · split at hs
      · rename_i hc
        obtain ⟨hts, hk, hi⟩ := hc
        obtain ⟨i1, -⟩ := sx_ix_ok g.at (hx β sx_ag.rf) hi
        have hb : 0 ≤ ((ab_xt (k - 11)).getD x.toNatClampNeg 0).toInt ∧ ((ab_xt (k - 11)).getD x.toNatClampNeg 0).toInt ≤ 127 := by
          have key : ∀ j : Nat, ∀ y ∈ ab_xt j, 0 ≤ y.toInt ∧ y.toInt ≤ 127 := fun j => by
            unfold ab_xt
            split <;> decide
          rw [List.getD_eq_getElem?_getD]
          cases hj : (ab_xt (k - 11))[x.toNatClampNeg]? with
          | none => exact ⟨by decide, by decide⟩
          | some y => exact key _ y (List.mem_of_getElem? hj)
        exact sx_t1.to (A := sx_k r A) (sx_fp_ok (sx_vi _) hb.1 hb.2 gg hs) (H1 k x q hts hk i1)
      · cases hs
  · cases hs
theorem sx_z_len (g : sx_ok SP z L xs A β lv st h) (hs : sx_len SP pc A = some l) : sx_to SP z L xs Mo (sx_nx A) β h l (ab_len2 pc lv st h) := by
  unfold sx_len at hs
  split at hs
  · rename_i a r hst
    obtain ⟨q, rfl, h1⟩ := sx_pr (g.sts hst)
    have gg := g.stk h1
    split at hs
    · split at hs
      · rename_i v hv
        cases hs
        have hh := g.at.2.2.2.2.2.2
        have hr : ab_rd h 0 = some (.inl (0, L, .inl xs)) := by
          unfold ab_rd
          rw [if_pos (by rw [hh.1]; omega), hh.2.2.1]
        obtain ⟨w, hw, hv⟩ := g.fk hv
        have hw2 : w = .int (Int32.ofNat L) := by
          have : sx_fd h 126 = some (.int (Int32.ofNat L)) := by
            unfold sx_fd
            rw [show 126 / 128 = 0 by decide, hr]
            rfl
          rw [this] at hw
          exact (Option.some.inj hw).symm
        subst hw2
        refine sx_to.one ?_ rfl rfl (gg.pu hv)
        unfold ab_len2 ab_len
        simp only [hr]
        rfl
      · cases hs
    · split at hs
      · rename_i t m ps hcel
        split at hs
        · rename_i hm
          cases hs
          obtain ⟨r1, r2, r3⟩ := sx_cel_ok hcel g.at.2.2.2.2.2.2
          have key : ∃ c, h.2.2 a = .inl (t, m, c) ∧ t < 5 := by
            obtain ⟨ps1, cs⟩ := ps
            by_cases t2 : t = 2
            · subst t2
              obtain ⟨f, ef⟩ := sx_c_l r2
              exact ⟨_, ef, by decide⟩
            · by_cases t4 : t = 4
              · subst t4
                obtain ⟨f, ef, -⟩ := sx_c_r r2
                exact ⟨_, ef, by decide⟩
              · obtain ⟨f, ef, -⟩ := sx_c_i r2 t2 t4
                rw [ef] at r2
                exact ⟨_, ef, by rcases r2.2.2.1 with e | e | e <;> omega⟩
          obtain ⟨c, ec, ht⟩ := key
          rw [ec] at r1
          refine sx_to.one (st' := .int (Int32.ofNat m) :: q) ?_ rfl rfl (gg.pu (fun β' _ => ?_))
          · unfold ab_len2 ab_len
            simp only [r1]
            rw [if_pos ht]
          · show (Int32.ofNat m).toInt = _
            rw [sx_ev_K, Int32.toInt_ofNat_of_lt (by omega)]
        · cases hs
      · cases hs
  · rename_i k r hst
    split at hs
    · rename_i hk
      cases hs
      obtain ⟨q, rfl, h1⟩ := sx_px (g.sts hst)
      refine sx_to.one (st' := .int (Int32.ofNat (ab_xt (k - 11)).length) :: q) ?_ rfl rfl ((g.stk h1).pu (fun β' _ => ?_))
      · unfold ab_len2
        dsimp only
        rw [if_pos hk]
      · show (Int32.ofNat _).toInt = _
        have key : ∀ j : Nat, (ab_xt j).length < 100 := fun j => by
          unfold ab_xt
          split <;> decide
        have := key (k - 11)
        rw [sx_ev_K, Int32.toInt_ofNat_of_lt (by omega)]
    · cases hs
  · cases hs
end SXA
