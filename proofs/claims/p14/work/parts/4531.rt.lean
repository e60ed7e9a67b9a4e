/-! ===== the tapes, the fault, which net stands ===== -/
def Rt (c m : dc_M) : Prop := tp c m ∧ c.1 2 2 = m.1 82 14 ∧ cs_md (c.2.2.1 1 7) (c.2.2.1 1 8)
theorem Rt.sm (c m m' : dc_M) (v : vs 82 120 m m') (R : Rt c m) : Rt c m' := by
  have e := (v 82 (by decide) (by decide)).1
  have e2 := (v 91 (by decide) (by decide)).1
  refine ⟨R.1.up rfl (fun _ => rfl) (by rw [e]) (fun j => by rw [e2]), by rw [e]; exact R.2.1, R.2.2⟩
theorem Rt.sc (c c' m : dc_M) (v : vs 1 82 c c') (R : Rt c m) : Rt c' m := by
  have e := (v 2 (by decide) (by decide)).1
  have e2 := (v 3 (by decide) (by decide)).1
  have e3 := (v 1 (by decide) (by decide)).2.2.1
  refine ⟨R.1.up (by rw [e]) (fun j => by rw [e2]) rfl (fun _ => rfl), by rw [e]; exact R.2.1, by rw [e3]; exact R.2.2⟩
theorem Rt.md (c m : dc_M) (R : Rt c m) : cs_md (c.2.2.1 1 7) (c.2.2.1 1 8) := R.2.2
def Rt_D : List Nat := [135, 136, 257, 258, 264, 511, 10509, 10510, 11775]
section RT
variable {z L : Nat} {xs : Nat → Int32} {h h' : ab_H}
theorem D_c {D mo : List Nat} (hD : D.all (fun k => !mo.contains k) = true) {k : Nat} (hk : k ∈ D) : mo.contains k = false := by
  have q := List.all_eq_true.mp hD k hk
  cases hc : mo.contains k with
  | false => rfl
  | true => rw [hc] at q; cases q
theorem gm_same {mo : List Nat} (hfr : sx_fr mo h h') (hh : sx_h sx_SP z L xs h) (hh' : sx_h sx_SP z L xs h') (m1 : mo.contains 135 = false) (m2 : mo.contains 136 = false) : (dc_vw h').2.2.1 1 7 = (dc_vw h).2.2.1 1 7 ∧ (dc_vw h').2.2.1 1 8 = (dc_vw h).2.2.1 1 8 := gm_vr hh' (gm_fr (gm_of hh) hfr m1 m2)
theorem Rt.fr {mo : List Nat} (hD : Rt_D.all (fun k => !mo.contains k) = true) (hh : sx_h sx_SP z L xs h) (hh' : sx_h sx_SP z L xs h') (hfr : sx_fr mo h h') (R : GR Rt h) : GR Rt h' := by
  have f1 : (dc_vw h').1 2 1 = (dc_vw h).1 2 1 := gd_fi (c := 2) hfr hh hh' rfl (D_c hD (by decide)) (by decide)
  have f2 : (dc_vw h').1 2 2 = (dc_vw h).1 2 2 := gd_fi (c := 2) hfr hh hh' rfl (D_c hD (by decide)) (by decide)
  have f3 : ∀ j, (dc_vw h').1 3 j = (dc_vw h).1 3 j := gd_fa (c := 3) hfr hh hh' rfl (by decide) (by decide) (D_c hD (by decide))
  have g1 : (dc_vw h').1 82 13 = (dc_vw h).1 82 13 := gd_fi (c := 82) hfr hh hh' rfl (D_c hD (by decide)) (by decide)
  have g2 : (dc_vw h').1 82 14 = (dc_vw h).1 82 14 := gd_fi (c := 82) hfr hh hh' rfl (D_c hD (by decide)) (by decide)
  have g3 : ∀ j, (dc_vw h').1 91 j = (dc_vw h).1 91 j := gd_fa (c := 91) hfr hh hh' rfl (by decide) (by decide) (D_c hD (by decide))
  obtain ⟨e1, e2⟩ := gm_same hfr hh hh' (D_c hD (by decide)) (D_c hD (by decide))
  exact ⟨⟨R.1.1.up f1 f3 g1 g3, by rw [f2, g2]; exact R.1.2.1, by rw [e1, e2]; exact R.1.2.2⟩, pr_fr hfr (D_c hD (by decide)) R.2⟩
theorem vt_3 (hh : sx_h sx_SP z L xs h) : ((dc_vw h).2.2.2 3).1 = 1 := by
  obtain ⟨f, r, -⟩ := nw_a (a := 3) rfl (by decide) (by decide) hh
  have r := (ab_rd_of r).2
  show (dc_vt (h.2.2 3)).1 = 1
  rw [r]
  rfl
theorem Rt.p0 {V : Int64} {c m c' m' : dc_M} {v v' : Int32} (ty : (c.2.2.2 3).1 = 1) (R : Rt c m) (f : d_X9_feed 1 V c = some (v, c')) (g : d_X10_feed 82 V m = some (v', m')) : v = v' ∧ Rt c' m' := by
  obtain ⟨e, t, r1, r2, r3, r4, r5, r6⟩ := fe_sim R.1 ty f g
  exact ⟨e, t, by rw [r3 2 (by decide), r5 14 (by decide)]; exact R.2.1, by rw [r1]; exact R.2.2⟩
theorem Rt.p1 {x : Int32} {c m c' m' : dc_M} {v v' : Int32} (R : Rt c m) (f : d_X9_end 1 x c = (v, c')) (g : d_X10_end 82 x m = (v', m')) : v = v' ∧ Rt c' m' := by
  obtain ⟨e, t, r1, r2, r3, r4⟩ := en_sim R.1 f g
  exact ⟨e, t, by rw [r2 2 2 (by decide), r3 82 14 (by decide)]; exact R.2.1, by rw [r1]; exact R.2.2⟩
theorem fb_b55 {m0 m : dc_M} {z : Int32 × dc_M} (q : fb m0 m) (h : d_X10_text_b55 82 m = some z) : ∀ j, z.2.1 91 j = m0.1 91 j := fun j => by
  unfold d_X10_text_b55 at h
  have q1 := q.2 91 j (by omega) (by omega)
  split at h
  · obtain ⟨t1, t2, t3⟩ := tc_117 h
    rw [t3, if_neg (by omega), if_neg (by omega), if_neg (by omega)]
    unfold tcA
    rw [if_neg (by omega), if_neg (by omega)]
    exact q1
  · have h := Option.some.inj h
    rw [← h]
    exact q1
theorem fb_text {m : dc_M} {z : Int32 × dc_M} (h : d_X10_text 82 m = some z) : ∀ j, z.2.1 91 j = m.1 91 j := fun j => by
  unfold d_X10_text at h
  have q0 : fb m (dc_wi (dc_wi (dc_wi (dc_wi (dc_wi (dc_wi m 82 15 0) 82 17 0) 82 21 0) 82 24 0) 82 30 0) 82 31 0) := fb_wi (fb_wi (fb_wi (fb_wi (fb_wi (fb_wi ⟨rfl, fun _ _ _ _ => rfl⟩ (by omega)) (by omega)) (by omega)) (by omega)) (by omega)) (by omega)
  cases hn : d_X10_next 82 (dc_wi (dc_wi (dc_wi (dc_wi (dc_wi (dc_wi m 82 15 0) 82 17 0) 82 21 0) 82 24 0) 82 30 0) 82 31 0) with
  | none => rw [hn] at h; cases h
  | some e =>
    rw [hn, Option.bind_some] at h
    unfold d_X10_text_l34 at h
    refine dc_lp_inv (fun s => fb m s) (fun z : Int32 × dc_M => z.2.1 91 j = m.1 91 j) (fun s s' hI hs => ?_) (fun s z hI hs => ?_) (fb_X10_next q0 hn) h
    · have hs : d_X10_text_l34b 82 s = some (.inl s') := hs
      unfold d_X10_text_l34b at hs
      split at hs
      · cases hz : d_X10_text_b55 82 s with
        | none => rw [hz] at hs; cases hs
        | some z => rw [hz] at hs; cases hs
      · split at hs
        · cases hz : d_X10_text_b55 82 s with
          | none => rw [hz] at hs; cases hs
          | some z => rw [hz] at hs; cases hs
        · cases hz : d_X10_readLine 82 s with
          | none => rw [hz] at hs; cases hs
          | some z =>
            rw [hz, Option.bind_some] at hs
            cases hs
            exact fb_X10_readLine hI hz
    · have hs : d_X10_text_l34b 82 s = some (.inr z) := hs
      unfold d_X10_text_l34b at hs
      split at hs
      · cases hz : d_X10_text_b55 82 s with
        | none => rw [hz] at hs; cases hs
        | some y => rw [hz] at hs; cases hs; exact fb_b55 hI hz j
      · split at hs
        · cases hz : d_X10_text_b55 82 s with
          | none => rw [hz] at hs; cases hs
          | some y => rw [hz] at hs; cases hs; exact fb_b55 hI hz j
        · cases hz : d_X10_readLine 82 s with
          | none => rw [hz] at hs; cases hs
          | some y => rw [hz, Option.bind_some] at hs; cases hs
theorem Rt.p2 {c m c' m' : dc_M} {v v' : Int32} (R : Rt c m) (f : d_X9_text 1 c = some (v, c')) (g : d_X10_text 82 m = some (v', m')) : v = v' ∧ Rt c' m' := by
  have hm := R.2.2
  obtain ⟨e, a1, a2, a3, a4⟩ := tx_ans hm rfl rfl R.1 f g
  have h41 : c.2.2.1 1 8 = 41 ∨ c.2.2.1 1 8 = 52 := by
    rcases hm with ⟨-, q⟩ | ⟨-, q⟩
    · exact Or.inr q
    · exact Or.inl q
  have t3 := fa_text rfl h41 f
  have t4 := fb_text g
  refine ⟨e, ⟨by rw [a1, a2], by rw [a1]; decide, by rw [a1]; decide, fun j hj => ?_⟩, a3, ?_⟩
  · rw [t3, t4]
    exact R.1.2.2.2 j hj
  · rcases a4 with ⟨b1, b2⟩ | ⟨b1, b2⟩
    · rw [b1, b2]
      rcases hm with ⟨x, y⟩ | ⟨x, y⟩
      · exact Or.inr ⟨y, x⟩
      · exact Or.inl ⟨y, x⟩
    · rw [b1, b2]
      exact hm
theorem Rt.p3 {c m : dc_M} (R : Rt c m) : d_X9_fault 1 c = d_X10_fault 82 m := R.2.1
end RT
