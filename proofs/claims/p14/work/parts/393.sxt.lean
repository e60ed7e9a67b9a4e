/-! ===== the wider checker is sound: stores ===== -/
section SXB
variable {SP : List sx_C} {z L : Nat} {xs : Nat → Int32} {Mo : List Nat} {β : Nat → Int} {A B : sx_S} {lv lv' : ab_L} {st st' : List Value} {h h' : ab_H} {l : List (Nat × sx_S)} {pc p n i nL nx : Nat}
theorem sx_zs_le (f : Nat → Int32) : ∀ m, sx_zs f m ≤ m
  | 0 => Nat.le_refl _
  | m + 1 => by
    have := sx_zs_le f m
    unfold sx_zs
    split <;> omega
theorem sx_zs_ge {f : Nat → Int32} {j : Nat} {x : Int32} : ∀ {m}, m ≤ j → sx_zs (upd f j x) m = sx_zs f m
  | 0, _ => rfl
  | m + 1, hm => by
    unfold sx_zs
    rw [sx_zs_ge (m := m) (by omega), show upd f j x m = f m from if_neg (by omega)]
theorem sx_zs_upd {f : Nat → Int32} {j : Nat} {x : Int32} (h0 : f j = 0) (hx : x ≠ 0) : ∀ {m}, j < m → sx_zs (upd f j x) m + 1 = sx_zs f m
  | 0, hm => by omega
  | m + 1, hm => by
    unfold sx_zs
    by_cases e : m = j
    · subst e
      rw [sx_zs_ge (Nat.le_refl _), show upd f m x m = x from if_pos rfl, if_neg hx, if_pos h0]
      omega
    · rw [show upd f j x m = f m from if_neg e]
      have := sx_zs_upd h0 hx (m := m) (by omega)
      omega
/-- an array's cell is written: the fields but its count of zeros stay -/
theorem sx_fd_arr {a key t t' m : Nat} {f : ab_C} {f' : ab_C} (hr : ab_rd h a = some (.inl (t, m, f))) (hne : key ≠ a * 128 + 125) (hk : ∀ u : Nat → Int32, f = .inl u → ∃ v : Nat → Int32, f' = .inl v) (hk2 : ∀ v : Nat → Int32, f' = .inl v → ∃ u : Nat → Int32, f = .inl u) : sx_fd (ab_wr h a (.inl (t', m, f'))) key = sx_fd h key := by
  by_cases e : key / 128 = a
  · unfold sx_fd
    rw [e, hr, ab_rd_self (ab_rd_of hr).1]
    have h125 : key % 128 ≠ 125 := fun q => hne (by omega)
    cases f with
    | inl u =>
      obtain ⟨v, rfl⟩ := hk u rfl
      dsimp only
      rw [if_neg h125, if_neg h125]
    | inr u =>
      cases f' with
      | inl v =>
        obtain ⟨u', hu⟩ := hk2 v rfl
        cases hu
      | inr v => rfl
  · exact sx_fd_wr e
theorem sx_fr_arr {a t t' m : Nat} {f f' : ab_C} (hr : ab_rd h a = some (.inl (t, m, f))) (h1 : Mo.contains (a * 128 + 127) = true) (h2 : Mo.contains (a * 128 + 125) = true ∨ ∀ u : Nat → Int32, f ≠ .inl u) (hk : ∀ u : Nat → Int32, f = .inl u → ∃ v : Nat → Int32, f' = .inl v) (hk2 : ∀ v : Nat → Int32, f' = .inl v → ∃ u : Nat → Int32, f = .inl u) : sx_fr Mo h (ab_wr h a (.inl (t', m, f'))) := fun key hkey => by
  by_cases e : key / 128 = a
  · have hn7 : key % 128 ≠ 127 := fun q => by
      have : key = a * 128 + 127 := by omega
      rw [this, h1] at hkey
      cases hkey
    unfold sx_ob
    rw [if_neg hn7, if_neg hn7]
    by_cases e5 : key = a * 128 + 125
    · rcases h2 with h2 | h2
      · rw [e5, h2] at hkey
        cases hkey
      · have : sx_fd (ab_wr h a (.inl (t', m, f'))) key = sx_fd h key := by
          unfold sx_fd
          rw [e, hr, ab_rd_self (ab_rd_of hr).1]
          cases f with
          | inl u => exact absurd rfl (h2 u)
          | inr u =>
            cases f' with
            | inl v =>
              obtain ⟨u', hu⟩ := hk2 v rfl
              cases hu
            | inr v => rfl
        rw [this]
    · rw [sx_fd_arr hr e5 hk hk2]
  · exact (sx_ob_wr e).symm
/-- the state behind a store -/
theorem sx_sta_ok {a t m : Nat} {c : sx_C} {f f' : ab_C} {e : sx_E} {v : sx_V} {r : List sx_V} {q : List Value} (hcel : sx_cel SP a = some c) (hr : ab_rd h a = some (.inl (t, m, f))) (hc : sx_c c (.inl (t, m, f'))) (hk : ∀ u : Nat → Int32, f = .inl u → ∃ v : Nat → Int32, f' = .inl v) (hk2 : ∀ v : Nat → Int32, f' = .inl v → ∃ u : Nat → Int32, f = .inl u) (g : sx_at SP z L xs A β lv st h) (hq : sx_st β r q) (hel : sx_el β (a, e, v) (ab_wr h a (.inl (t, m, f')))) : sx_at SP z L xs (sx_sta a e v r A) β lv q (ab_wr h a (.inl (t, m, f'))) := by
  refine ⟨g.1, hq, fun u hu => ?_, fun u hu => ?_, g.2.2.2.2.1, g.2.2.2.2.2.1, sx_h_wr hcel hc g.2.2.2.2.2.2⟩
  · obtain ⟨hm, hp⟩ := List.mem_filter.mp hu
    obtain ⟨w', hw', hv'⟩ := g.2.2.1 u hm
    refine ⟨w', ?_, hv'⟩
    rw [sx_fd_arr hr (by simpa using hp) hk hk2]
    exact hw'
  · rcases List.mem_append.mp hu with hu | hu
    · obtain ⟨hm, hp⟩ := List.mem_filter.mp hu
      rw [sx_el_wr (by simpa using hp)]
      exact g.2.2.2.1 u hm
    · rw [List.mem_singleton] at hu
      subst hu
      exact hel
theorem sx_z_ast2 {ts : List Nat} {R : List Value → Option ab_S}
    (Hi : ∀ (a t m : Nat) (f : Nat → Int32) (i x : Int32) (q : List Value), ts.contains t = true → (t = 0 ∨ (t = 1 ∧ -128 ≤ x.toInt ∧ x.toInt ≤ 127) ∨ (t = 3 ∧ 0 ≤ x.toInt ∧ x.toInt ≤ 1)) → ab_rd h a = some (.inl (t, m, .inl f)) → ab_in i m = true → a ≠ 0 → R (.int x :: .int i :: .ref a :: q) = some (pc + 1, lv, q, ab_wr h a (.inl (t, m, .inl (upd f i.toNatClampNeg x)))))
    (Hl : ∀ (a m : Nat) (f : Nat → Int64) (i : Int32) (x : Int64) (q : List Value), ts.contains 2 = true → ab_rd h a = some (.inl (2, m, .inr (.inl f))) → ab_in i m = true → a ≠ 0 → R (.long x :: .int i :: .ref a :: q) = some (pc + 1, lv, q, ab_wr h a (.inl (2, m, .inr (.inl (vp_updL f i.toNatClampNeg x))))))
    (g : sx_ok SP z L xs A β lv st h) (hs : sx_ias SP Mo ts pc A = some l) : sx_to SP z L xs Mo (sx_nx A) β h l (R st) := by
  unfold sx_ias at hs
  split at hs
  · rename_i e ie a r hst
    obtain ⟨x, q1, rfl, hx, h1⟩ := sx_pi (g.sts hst)
    obtain ⟨j, q2, rfl, hj, h2⟩ := sx_pi h1
    obtain ⟨q, rfl, h3⟩ := sx_pr h2
    split at hs
    · rename_i t m ps cs hcel
      split at hs
      · rename_i hc
        obtain ⟨c1, c2, c3, c4, c5, c6, c7⟩ := hc
        obtain ⟨r1, r2, r3⟩ := sx_cel_ok hcel g.at.2.2.2.2.2.2
        obtain ⟨i1, i2, i3, i4⟩ := sx_ix_ok g.at (hj β sx_ag.rf) c3
        have hx0 := hx β sx_ag.rf
        have t2 : t ≠ 2 := by rcases c2 with e | e | e <;> omega
        have t4 : t ≠ 4 := by rcases c2 with e | e | e <;> omega
        obtain ⟨f, ef, hf⟩ := sx_c_i r2 t2 t4
        have r2' := r2
        rw [ef] at r1 r2'
        have ct : t = 0 ∨ (t = 1 ∧ -128 ≤ x.toInt ∧ x.toInt ≤ 127) ∨ (t = 3 ∧ 0 ≤ x.toInt ∧ x.toInt ≤ 1) := by
          rcases c2 with c | c | c
          · exact Or.inl c
          · have := sx_in_ok g.at.nf c.2
            rw [← hx0] at this
            exact Or.inr (Or.inl ⟨c.1, this⟩)
          · have := sx_in_ok g.at.nf c.2
            rw [← hx0] at this
            exact Or.inr (Or.inr ⟨c.1, this⟩)
        have hm := Hi a t m f j x q c1 ct r1 i1 r3
        have hsp : sx_c (.inl (t, m, ps, cs)) (.inl (t, m, .inl (upd f j.toNatClampNeg x))) := by
          refine ⟨rfl, rfl, r2'.2.2.1, fun k hk => ?_⟩
          unfold upd
          split
          · obtain ⟨pp, hp1, hp2⟩ := List.any_eq_true.mp c4
            have := sx_in_ok g.at.nf hp2
            rw [← hx0] at this
            exact ⟨pp, hp1, this⟩
          · exact hf k hk
        have hk1 : ∀ u : Nat → Int32, (Sum.inl f : ab_C) = .inl u → ∃ v : Nat → Int32, (Sum.inl (upd f j.toNatClampNeg x) : ab_C) = .inl v := fun _ _ => ⟨_, rfl⟩
        have hk2 : ∀ v : Nat → Int32, (Sum.inl (upd f j.toNatClampNeg x) : ab_C) = .inl v → ∃ u : Nat → Int32, (Sum.inl f : ab_C) = .inl u := fun _ _ => ⟨_, rfl⟩
        have hself : ab_rd (ab_wr h a (.inl (t, m, .inl (upd f j.toNatClampNeg x)))) a = some (.inl (t, m, .inl (upd f j.toNatClampNeg x))) := ab_rd_self (ab_rd_of r1).1
        have hfr : sx_fr Mo h (ab_wr h a (.inl (t, m, .inl (upd f j.toNatClampNeg x)))) := sx_fr_arr r1 c5 (Or.inl c6) hk1 hk2
        have gst : ∀ β', sx_ag (sx_nx A) β β' → sx_at SP z L xs (sx_sta a ie (.inl (0, e)) r A) β' lv q (ab_wr h a (.inl (t, m, .inl (upd f j.toNatClampNeg x)))) := fun β' ha => by
          refine sx_sta_ok hcel r1 hsp hk1 hk2 (g β' ha) (h3 β' ha) ?_
          unfold sx_el
          rw [hself]
          have hj1 := hj β' ha
          have hj2 := hj β sx_ag.rf
          dsimp only
          rw [← hj1]
          refine ⟨by omega, by omega, ?_⟩
          show (upd f j.toInt.toNat x j.toInt.toNat).toInt = _
          rw [show upd f j.toInt.toNat x j.toInt.toNat = x from if_pos rfl]
          exact hx β' ha
        have plain : l = [(pc + 1, sx_sta a ie (.inl (0, e)) r A)] → sx_to SP z L xs Mo (sx_nx A) β h l (R (.int x :: .int j :: .ref a :: q)) := fun hl => ⟨_, _, _, _, sx_sta a ie (.inl (0, e)) r A, β, hm, by rw [hl]; exact List.mem_singleton.mpr rfl, Nat.le_refl (sx_nx A), sx_ag.rf, gst, hfr⟩
        split at hs
        · rename_i zz o hz ho
          split at hs
          · rename_i hc
            cases hs
            obtain ⟨w, hw, hv⟩ := g.fk hz
            have hw2 : w = .int (Int32.ofNat (sx_zs f m)) := by
              have : sx_fd h (a * 128 + 125) = some (.int (Int32.ofNat (sx_zs f m))) := by
                unfold sx_fd
                rw [show (a * 128 + 125) / 128 = a by omega, show (a * 128 + 125) % 128 = 125 by omega, r1]
                rfl
              rw [this] at hw
              exact (Option.some.inj hw).symm
            subst hw2
            have z1 := sx_zs_le f m
            have z2 := sx_zs_le (upd f j.toNatClampNeg x) m
            have f0 : f j.toNatClampNeg = 0 := by
              have := sx_el_i r1 (hj β sx_ag.rf) (g.at.2.2.2.1 _ (sx_le2_mem ho))
              have h5 : (f j.toNatClampNeg).toInt = sx_ev β o := this
              have h6 := sx_in_ok g.at.nf hc.1
              refine Int32.toInt_inj.mp ?_
              show _ = 0
              omega
            have x0 : x ≠ 0 := fun q => by
              have h6 := sx_le_ok g.at.nf hc.2
              rw [sx_ev_ak, sx_ev_neg, ← hx0, q] at h6
              have : (0 : Int32).toInt = 0 := rfl
              omega
            have z3 := sx_zs_upd f0 x0 i2
            have e1 : (Int32.ofNat (sx_zs f m)).toInt = sx_zs f m := Int32.toInt_ofNat_of_lt (by omega)
            have e2 : (Int32.ofNat (sx_zs (upd f j.toNatClampNeg x) m)).toInt = sx_zs (upd f j.toNatClampNeg x) m := Int32.toInt_ofNat_of_lt (by omega)
            refine ⟨_, _, _, _, _, sx_bu β (sx_nx A) (sx_zs (upd f j.toNatClampNeg x) m), hm, List.mem_singleton.mpr rfl, Nat.le_succ _, sx_bu_ag, fun β' ha => ?_, hfr⟩
            have ha1 : sx_ag (sx_nx A) β β' := fun s hs => by
              rw [ha s (Nat.lt_succ_of_lt hs)]
              exact sx_bu_ag s hs
            have ha2 : β' (sx_nx A) = sx_zs (upd f j.toNatClampNeg x) m := by
              rw [ha (sx_nx A) (Nat.lt_succ_self _)]
              unfold sx_bu
              rw [if_pos rfl]
            have hzz : (Int32.ofNat (sx_zs f m)).toInt = sx_ev β' zz := hv β' ha1
            have g2 := (gst β' ha1).new (a := 0) (b := (m : Int)) (show 0 ≤ β' (sx_nx A) by rw [ha2]; omega) (show β' (sx_nx A) ≤ m by rw [ha2]; omega)
            have g3 := g2.fact (es := [sx_ak (sx_sub (sx_Y (sx_nx A)) zz) 1, sx_ak (sx_sub zz (sx_Y (sx_nx A))) (-1)]) (fun u hu => by
              rcases List.mem_cons.mp hu with rfl | hu
              · rw [sx_ev_ak, sx_ev_sub, sx_ev_Y, ha2, ← hzz]
                omega
              · rw [List.mem_singleton] at hu
                subst hu
                rw [sx_ev_ak, sx_ev_sub, sx_ev_Y, ha2, ← hzz]
                omega)
            refine g3.fld (key := a * 128 + 125) (v := .inl (0, sx_Y (sx_nx A))) (w := .int (Int32.ofNat (sx_zs (upd f j.toNatClampNeg x) m))) ?_ ?_
            · unfold sx_fd
              rw [show (a * 128 + 125) / 128 = a by omega, show (a * 128 + 125) % 128 = 125 by omega, hself]
              rfl
            · show _ = sx_ev β' (sx_Y (sx_nx A))
              rw [sx_ev_Y, ha2, e2]
          · cases hs
            exact plain rfl
        · cases hs
          exact plain rfl
      · cases hs
    · cases hs
  · rename_i e ie a r hst
    obtain ⟨x, q1, rfl, hx, h1⟩ := sx_pl (g.sts hst)
    obtain ⟨j, q2, rfl, hj, h2⟩ := sx_pi h1
    obtain ⟨q, rfl, h3⟩ := sx_pr h2
    split at hs
    · rename_i t m ps cs hcel
      split at hs
      · rename_i hc
        obtain ⟨c1, c2, c3, c5⟩ := hc
        subst c2
        cases hs
        obtain ⟨r1, r2, r3⟩ := sx_cel_ok hcel g.at.2.2.2.2.2.2
        obtain ⟨i1, i2, i3, i4⟩ := sx_ix_ok g.at (hj β sx_ag.rf) c3
        obtain ⟨f, ef⟩ := sx_c_l r2
        rw [ef] at r1
        have hm := Hl a m f j x q c1 r1 i1 r3
        have hk1 : ∀ u : Nat → Int32, (Sum.inr (.inl f) : ab_C) = .inl u → ∃ v : Nat → Int32, (Sum.inr (.inl (vp_updL f j.toNatClampNeg x)) : ab_C) = .inl v := fun _ q => by cases q
        have hk2 : ∀ v : Nat → Int32, (Sum.inr (.inl (vp_updL f j.toNatClampNeg x)) : ab_C) = .inl v → ∃ u : Nat → Int32, (Sum.inr (.inl f) : ab_C) = .inl u := fun _ q => by cases q
        refine ⟨_, _, _, _, sx_sta a ie (.inl (1, e)) r A, β, hm, List.mem_singleton.mpr rfl, Nat.le_refl (sx_nx A), sx_ag.rf, fun β' ha => ?_, sx_fr_arr r1 c5 (Or.inr (fun u q => by cases q)) hk1 hk2⟩
        refine sx_sta_ok hcel r1 ⟨rfl, rfl, rfl⟩ hk1 hk2 (g β' ha) (h3 β' ha) ?_
        unfold sx_el
        rw [ab_rd_self (ab_rd_of r1).1]
        have hj1 := hj β' ha
        have hj2 := hj β sx_ag.rf
        dsimp only
        rw [← hj1]
        refine ⟨by omega, by omega, ?_⟩
        show (vp_updL f j.toInt.toNat x j.toInt.toNat).toInt = _
        rw [show vp_updL f j.toInt.toNat x j.toInt.toNat = x from if_pos rfl]
        exact hx β' ha
      · cases hs
    · cases hs
  · cases hs
theorem sx_wt_ok : ∀ {r : List sx_V} {q : List Value}, sx_st β r q → (q.map fun v => v.category).sum = sx_wt r
  | [], [], _ => rfl
  | v :: r, w :: q, hq => by
    have h1 := sx_two_cat hq.1
    have h2 := sx_wt_ok hq.2
    unfold sx_wt at h2 ⊢
    rw [List.map_cons, List.map_cons, List.sum_cons, List.sum_cons, h2]
    congr 1
    by_cases ht : sx_two v = true
    · rw [ht] at h1
      rw [if_pos ht]
      exact eq_of_beq h1
    · rw [if_neg ht]
      exact sx_cat1 hq.1 (by simpa using ht)
theorem sx_z_cpy (g : sx_ok SP z L xs A β lv st h) (hs : sx_cpy SP Mo pc A = some l) : sx_to SP z L xs Mo (sx_nx A) β h l (ab_cpy pc lv st h) := by
  unfold sx_cpy at hs
  split at hs
  · rename_i n dp a sp a0 r hst
    obtain ⟨xn, q1, rfl, hn, h1⟩ := sx_pi (g.sts hst)
    obtain ⟨xd, q2, rfl, hd, h2⟩ := sx_pi h1
    obtain ⟨q3, rfl, h3⟩ := sx_pr h2
    obtain ⟨xs0, q4, rfl, hsp, h4⟩ := sx_pi h3
    obtain ⟨q, rfl, h5⟩ := sx_pr h4
    split at hs
    · rename_i n0 p0 cs0 n1 p1 cs1 hc0 hc1
      split at hs
      · rename_i hc
        obtain ⟨⟨c1, c2, c3⟩, ⟨c4, c5⟩, c6, c7, c8, c9⟩ := hc
        cases hs
        have hn := hn β sx_ag.rf
        have hd := hd β sx_ag.rf
        have hsp := hsp β sx_ag.rf
        rw [sx_ev_c rfl] at hn hd hsp
        obtain ⟨r1, r2, r3⟩ := sx_cel_ok hc0 g.at.2.2.2.2.2.2
        obtain ⟨s1, s2, s3⟩ := sx_cel_ok hc1 g.at.2.2.2.2.2.2
        obtain ⟨f, ef, hf⟩ := sx_c_i r2 (by decide) (by decide)
        obtain ⟨u, eu, hu⟩ := sx_c_i s2 (by decide) (by decide)
        rw [ef] at r1
        rw [eu] at s1
        have hng : ∀ x : Int32, 0 ≤ x.toInt → ¬ x < 0 := fun x hx q => by
          have q := Int32.lt_iff_toInt_lt.mp q
          have e : (0 : Int32).toInt = 0 := rfl
          omega
        have tn : ∀ x : Int32, x.toNatClampNeg = x.toInt.toNat := fun x => rfl
        have hm : ab_cpy pc lv (.int xn :: .int xd :: .ref a :: .int xs0 :: .ref a0 :: q) h = some (pc + 3, lv, q, ab_wr h a (.inl (0, n1, .inl (va_cpy f u xs0.toNatClampNeg xd.toNatClampNeg xn.toNatClampNeg)))) := by
          unfold ab_cpy
          simp only [r1, s1]
          rw [if_pos]
          refine ⟨⟨s3, r3⟩, ⟨hng _ (by omega), hng _ (by omega), hng _ (by omega)⟩, ⟨?_, ?_⟩, ?_⟩
          · rw [tn, tn]; omega
          · rw [tn, tn]; omega
          · rw [sx_wt_ok (h5 β sx_ag.rf)]
            exact c7
        have hk1 : ∀ v : Nat → Int32, (Sum.inl u : ab_C) = .inl v → ∃ w : Nat → Int32, (Sum.inl (va_cpy f u xs0.toNatClampNeg xd.toNatClampNeg xn.toNatClampNeg) : ab_C) = .inl w := fun _ _ => ⟨_, rfl⟩
        have hk2 : ∀ w : Nat → Int32, (Sum.inl (va_cpy f u xs0.toNatClampNeg xd.toNatClampNeg xn.toNatClampNeg) : ab_C) = .inl w → ∃ v : Nat → Int32, (Sum.inl u : ab_C) = .inl v := fun _ _ => ⟨_, rfl⟩
        have hspc : sx_c (.inl (0, n1, p1, cs1)) (.inl (0, n1, .inl (va_cpy f u xs0.toNatClampNeg xd.toNatClampNeg xn.toNatClampNeg))) := by
          refine ⟨rfl, rfl, Or.inl rfl, fun k hk => ?_⟩
          unfold va_cpy
          split
          · rename_i hk3
            rw [tn, tn] at hk3
            rw [← c6]
            refine hf _ ?_
            rw [tn, tn]
            omega
          · exact hu k hk
        refine ⟨_, _, _, _, _, β, hm, List.mem_singleton.mpr rfl, Nat.le_refl (sx_nx A), sx_ag.rf, fun β' ha => ?_, sx_fr_arr s1 c8 (Or.inl c9) hk1 hk2⟩
        have g' := g β' ha
        refine ⟨g'.1, h5 β' ha, fun v hv => ?_, fun v hv => ?_, g'.2.2.2.2.1, g'.2.2.2.2.2.1, sx_h_wr hc1 hspc g'.2.2.2.2.2.2⟩
        · obtain ⟨hm, hp⟩ := List.mem_filter.mp hv
          obtain ⟨w', hw', hv'⟩ := g'.2.2.1 v hm
          refine ⟨w', ?_, hv'⟩
          rw [sx_fd_arr s1 (by simpa using hp) hk1 hk2]
          exact hw'
        · obtain ⟨hm, hp⟩ := List.mem_filter.mp hv
          rw [sx_el_wr (by simpa using hp)]
          exact g'.2.2.2.1 v hm
      · cases hs
    · cases hs
  · cases hs
end SXB
