/-! ===== the tapes, the fault, the net, what the class remembers of its states ===== -/
def RN (c m : dc_M) : Prop := Rt c m ∧ NR (c.2.2.1 1 7) c m ∧ CK c
theorem md41 {a b : Nat} (h : cs_md a b) : a = 41 ∨ a = 52 := by
  rcases h with ⟨g, -⟩ | ⟨g, -⟩
  · exact Or.inl g
  · exact Or.inr g
theorem RN.sm (c m m' : dc_M) (v : vs 82 120 m m') (R : RN c m) : RN c m' := by
  have e := (v 82 (by decide) (by decide)).1
  exact ⟨Rt.sm c m m' v R.1, NR.eq R.2.1 (fun _ _ => rfl) (fun k _ => by rw [e]) (fun b h1 h2 => (v b (by omega) (by omega)).1), R.2.2⟩
theorem RN.sc (c c' m : dc_M) (v : vs 1 82 c c') (R : RN c m) : RN c' m := by
  have e3 := (v 1 (by decide) (by decide)).2.2.1
  have e1 := (v 1 (by decide) (by decide)).1
  have ha := md41 R.1.2.2
  have e7 : c'.2.2.1 1 7 = c.2.2.1 1 7 := by rw [e3]
  have en : ∀ i, i ≤ 10 → c'.1 (c.2.2.1 1 7 + i) = c.1 (c.2.2.1 1 7 + i) := fun i hi => (v _ (by omega) (by omega)).1
  refine ⟨Rt.sc c c' m v R.1, ?_, CK.eq R.2.2 (by rw [e1]) e7 en (fun b k h1 h2 _ => by rw [(v b (by omega) (by omega)).1])⟩
  rw [e7]
  exact NR.eq R.2.1 en (fun _ _ => rfl) (fun _ _ _ => rfl)
theorem RN.md (c m : dc_M) (R : RN c m) : cs_md (c.2.2.1 1 7) (c.2.2.1 1 8) := R.1.2.2
def RN_D : List Nat := [139, 10496, 10499, 10506, 10507]
def RN_c (x : Nat) : Bool := decide (x / 128 < 4) || (decide (10 < x / 128) && decide (x / 128 < 41)) || (decide (62 < x / 128) && decide (x / 128 < 83)) || decide (90 < x / 128)
section RN
variable {z L : Nat} {xs : Nat → Int32} {h h' : ab_H}
theorem rn_cell {mo : List Nat} (hC : mo.all RN_c = true) (hfr : sx_fr mo h h') (hh : sx_h sx_SP z L xs h) (hh' : sx_h sx_SP z L xs h') {b : Nat} (hb : (4 ≤ b ∧ b ≤ 10) ∨ (41 ≤ b ∧ b ≤ 62) ∨ (83 ≤ b ∧ b ≤ 90)) : (dc_vw h').1 b = (dc_vw h).1 b := by
  have e := fr_cell hfr hh hh' (b := b) (by omega) (by omega) (List.all_eq_true.mpr (fun x hx => by
    have q := List.all_eq_true.mp hC x hx
    unfold RN_c at q
    simp only [Bool.or_eq_true, Bool.and_eq_true, decide_eq_true_eq] at q
    rw [decide_eq_false (by omega)]
    rfl))
  show (fun k => dc_vi (h'.2.2 b) k) = fun k => dc_vi (h.2.2 b) k
  rw [e]
theorem RN.fr {mo : List Nat} (hD : ((Rt_D.all (fun k => !mo.contains k) && RN_D.all (fun k => !mo.contains k)) && mo.all RN_c) = true) (hh : sx_h sx_SP z L xs h) (hh' : sx_h sx_SP z L xs h') (hfr : sx_fr mo h h') (R : GR RN h) : GR RN h' := by
  rw [Bool.and_eq_true, Bool.and_eq_true] at hD
  obtain ⟨⟨hA, hB⟩, hC⟩ := hD
  have t := Rt.fr hA hh hh' hfr ⟨R.1.1, R.2⟩
  obtain ⟨e7, e8⟩ := gm_same hfr hh hh' (D_c hA (by decide)) (D_c hA (by decide))
  have ha := md41 R.1.1.2.2
  have en : ∀ i, i ≤ 10 → (dc_vw h').1 ((dc_vw h).2.2.1 1 7 + i) = (dc_vw h).1 ((dc_vw h).2.2.1 1 7 + i) := fun i hi => rn_cell hC hfr hh hh' (by omega)
  have f11 : (dc_vw h').1 1 11 = (dc_vw h).1 1 11 := gd_fi (c := 1) hfr hh hh' rfl (D_c hB (by decide)) (by decide)
  have g0 : (dc_vw h').1 82 0 = (dc_vw h).1 82 0 := gd_fi (c := 82) hfr hh hh' rfl (D_c hB (by decide)) (by decide)
  have g3 : (dc_vw h').1 82 3 = (dc_vw h).1 82 3 := gd_fi (c := 82) hfr hh hh' rfl (D_c hB (by decide)) (by decide)
  have g10 : (dc_vw h').1 82 10 = (dc_vw h).1 82 10 := gd_fi (c := 82) hfr hh hh' rfl (D_c hB (by decide)) (by decide)
  have g11 : (dc_vw h').1 82 11 = (dc_vw h).1 82 11 := gd_fi (c := 82) hfr hh hh' rfl (D_c hB (by decide)) (by decide)
  refine ⟨⟨t.1, ?_, CK.eq R.1.2.2 f11 e7 en (fun b k h1 h2 _ => by rw [rn_cell hC hfr hh hh' (b := b) (Or.inl ⟨h1, h2⟩)])⟩, t.2⟩
  rw [e7]
  refine NR.eq R.1.2.1 en (fun k hk => ?_) (fun b h1 h2 => rn_cell hC hfr hh hh' (Or.inr (Or.inr ⟨h1, h2⟩)))
  rcases hk with rfl | rfl | rfl | rfl
  · exact g0
  · exact g3
  · exact g10
  · exact g11
/-- both nets are left alone -/
theorem RN.up {c m c' m' : dc_M} (R : RN c m) (t : Rt c' m') (e2 : c'.2 = c.2) (e1 : ∀ b k, b ≠ 2 → b ≠ 3 → c'.1 b k = c.1 b k) (e3 : ∀ b k, b ≠ 82 → b ≠ 91 → m'.1 b k = m.1 b k) (e4 : ∀ k, k ≠ 13 → m'.1 82 k = m.1 82 k) : RN c' m' := by
  have ha := md41 R.1.2.2
  have e7 : c'.2.2.1 1 7 = c.2.2.1 1 7 := by rw [e2]
  have en : ∀ i, i ≤ 10 → c'.1 (c.2.2.1 1 7 + i) = c.1 (c.2.2.1 1 7 + i) := fun i hi => funext (fun k => e1 _ k (by omega) (by omega))
  refine ⟨t, ?_, CK.eq R.2.2 (e1 1 11 (by decide) (by decide)) e7 en (fun b k h1 h2 _ => e1 b k (by omega) (by omega))⟩
  rw [e7]
  exact NR.eq R.2.1 en (fun k hk => e4 k (by omega)) (fun b h1 h2 => funext (fun k => e3 b k (by omega) (by omega)))
theorem RN.p0 {V : Int64} {c m c' m' : dc_M} {v v' : Int32} (ty : (c.2.2.2 3).1 = 1) (R : RN c m) (f : d_X9_feed 1 V c = some (v, c')) (g : d_X10_feed 82 V m = some (v', m')) : v = v' ∧ RN c' m' := by
  obtain ⟨e, t⟩ := Rt.p0 ty R.1 f g
  obtain ⟨-, -, r1, r2, -, r4, r5, -⟩ := fe_sim R.1.1 ty f g
  exact ⟨e, R.up t r1 r2 r4 r5⟩
theorem RN.p1 {x : Int32} {c m c' m' : dc_M} {v v' : Int32} (R : RN c m) (f : d_X9_end 1 x c = (v, c')) (g : d_X10_end 82 x m = (v', m')) : v = v' ∧ RN c' m' := by
  obtain ⟨e, t⟩ := Rt.p1 R.1 f g
  obtain ⟨-, -, r1, r2, r3, -⟩ := en_sim R.1.1 f g
  exact ⟨e, R.up t r1 (fun b k h1 _ => r2 b k (by omega)) (fun b k h1 _ => r3 b k (by omega)) (fun k hk => r3 82 k (by omega))⟩
theorem fb_q {m0 m : dc_M} {z : Int32 × dc_M} (q : fb m0 m) (h : d_X10_text_b55 82 m = some z) : 0 < (z.2.1 82 14).toInt → (∀ k, k = 0 ∨ k = 3 ∨ k = 10 ∨ k = 11 → z.2.1 82 k = m0.1 82 k) ∧ ∀ b, 83 ≤ b → b ≤ 90 → z.2.1 b = m0.1 b := by
  unfold d_X10_text_b55 at h
  split at h
  · rename_i hc
    have hc : (m.1 82 15).toInt ≤ 0 := hc
    obtain ⟨t1, t2, t3⟩ := tc_117 h
    have e : z.2.1 82 14 = m.1 82 15 := by rw [t3]; rfl
    rw [e]
    exact fun p => by omega
  · have h := Option.some.inj h
    rw [← h]
    refine fun _ => ⟨fun k hk => ?_, fun b h1 h2 => funext (fun k => ?_)⟩
    · show (dc_wi (dc_wi m 82 13 0) 82 14 (m.1 82 15)).1 82 k = _
      rw [wi_k (by omega), wi_k (by omega)]
      exact q.2 82 k (by omega) (by omega)
    · show (dc_wi (dc_wi m 82 13 0) 82 14 (m.1 82 15)).1 b k = _
      rw [wi_k (by omega), wi_k (by omega)]
      exact q.2 b k (by omega) (by omega)
theorem fb_text2 {P : Int32 × dc_M → Prop} {m : dc_M} {z : Int32 × dc_M} (hP : ∀ s z, fb m s → d_X10_text_b55 82 s = some z → P z) (h : d_X10_text 82 m = some z) : P z := by
  unfold d_X10_text at h
  have q0 : fb m (dc_wi (dc_wi (dc_wi (dc_wi (dc_wi (dc_wi m 82 15 0) 82 17 0) 82 21 0) 82 24 0) 82 30 0) 82 31 0) := fb_wi (fb_wi (fb_wi (fb_wi (fb_wi (fb_wi ⟨rfl, fun _ _ _ _ => rfl⟩ (by omega)) (by omega)) (by omega)) (by omega)) (by omega)) (by omega)
  cases hn : d_X10_next 82 (dc_wi (dc_wi (dc_wi (dc_wi (dc_wi (dc_wi m 82 15 0) 82 17 0) 82 21 0) 82 24 0) 82 30 0) 82 31 0) with
  | none => rw [hn] at h; cases h
  | some e =>
    rw [hn, Option.bind_some] at h
    unfold d_X10_text_l34 at h
    refine dc_lp_inv (fun s => fb m s) P (fun s s' hI hs => ?_) (fun s z hI hs => ?_) (fb_X10_next q0 hn) h
    · have hs : d_X10_text_l34b 82 s = some (.inl s') := hs
      unfold d_X10_text_l34b at hs
      split at hs
      · cases hz : d_X10_text_b55 82 s with
        | none => rw [hz] at hs; cases hs
        | some z => rw [hz] at hs; cases hs
      · split at hs
        · cases hz : d_X10_text_b55 82 s with
          | none => rw [hz] at hs; cases hs
          | some z => rw [hz] at hs; cases hs
        · cases hz : d_X10_readLine 82 s with
          | none => rw [hz] at hs; cases hs
          | some z =>
            rw [hz, Option.bind_some] at hs
            cases hs
            exact fb_X10_readLine hI hz
    · have hs : d_X10_text_l34b 82 s = some (.inr z) := hs
      unfold d_X10_text_l34b at hs
      split at hs
      · cases hz : d_X10_text_b55 82 s with
        | none => rw [hz] at hs; cases hs
        | some y => rw [hz] at hs; cases hs; exact hP _ _ hI hz
      · split at hs
        · cases hz : d_X10_text_b55 82 s with
          | none => rw [hz] at hs; cases hs
          | some y => rw [hz] at hs; cases hs; exact hP _ _ hI hz
        · cases hz : d_X10_readLine 82 s with
          | none => rw [hz] at hs; cases hs
          | some y => rw [hz, Option.bind_some] at hs; cases hs
theorem RN.p2 {c m c' m' : dc_M} {v v' : Int32} (R : RN c m) (f : d_X9_text 1 c = some (v, c')) (g : d_X10_text 82 m = some (v', m')) : v = v' ∧ RN c' m' := by
  obtain ⟨e, t⟩ := Rt.p2 R.1 f g
  refine ⟨e, t, ?_⟩
  have md := R.1.2.2
  unfold cs_md at md
  have h41 : c.2.2.1 1 8 = 41 ∨ c.2.2.1 1 8 = 52 := by omega
  unfold d_X9_text at f
  rw [show 1 + 1 = 2 from rfl] at f
  cases hz : d_X4_readInto 2 (c.2.2.1 1 8) c with
  | none => rw [hz] at f; cases f
  | some z =>
    rw [hz, Option.bind_some] at f
    have rr := rr_into hz
    have q7 : z.2.2.2.1 1 7 = c.2.2.1 1 7 := by rw [rr]; rfl
    have q8 : z.2.2.2.1 1 8 = c.2.2.1 1 8 := by rw [rr]; rfl
    have fi := fa_into hz
    rcases tx_sim h41 R.1.1 hz g with ⟨z1, p, K, mm, l, hb⟩ | ⟨z1, f', g', d1, y1, y2, y3, y4⟩
    · rw [z1, if_pos (by decide), dc_let_eq] at f
      generalize hQ : d_X9_beginAnew 1 (dc_wr (dc_wr (dc_wi z.2 2 1 0) 1 7 ((dc_wi z.2 2 1 0).2.2.1 1 8)) 1 8 ((dc_wi z.2 2 1 0).2.2.1 1 7)) = Q at f
      have Q7 : Q.2.2.1 1 7 = c.2.2.1 1 8 := by rw [← hQ]; exact q8
      have Q11 : Q.1 1 11 = 0 := by rw [← hQ]; rfl
      have Qe : ∀ i, i ≤ 10 → Q.1 (c.2.2.1 1 8 + i) = z.2.1 (c.2.2.1 1 8 + i) := fun i hi => by
        rw [← hQ]
        unfold d_X9_beginAnew
        rw [wi_f (by omega), wi_f (by omega), wi_f (by omega), wi_f (by omega), wi_f (by omega), wi_f (by omega), wi_f (by omega)]
        exact wi_f (by omega)
      rw [Q7] at f
      cases f
      refine ⟨?_, fun q => (q Q11).elim⟩
      rw [Q7]
      exact NR.eq (NR.text l hb) Qe (fun _ _ => rfl) (fun _ _ _ => rfl)
    · rw [z1, if_neg (fun q => q rfl)] at f
      have f : some ((-10 : Int32) - z.2.1 2 3, dc_wi z.2 2 1 0) = some (v, c') := f
      have f := Option.some.inj f
      obtain ⟨-, hc⟩ := Prod.mk.inj f
      have pos : 0 < (m'.1 82 14).toInt := by rw [show m'.1 82 14 = f' from y2]; exact y4
      obtain ⟨w1, w2⟩ := fb_text2 (P := fun z : Int32 × dc_M => 0 < (z.2.1 82 14).toInt → (∀ k, k = 0 ∨ k = 3 ∨ k = 10 ∨ k = 11 → z.2.1 82 k = m.1 82 k) ∧ ∀ b, 83 ≤ b → b ≤ 90 → z.2.1 b = m.1 b) (fun s z q h => fb_q q h) g pos
      have ec : ∀ b k, b ≠ 2 → ¬ (c.2.2.1 1 8 ≤ b ∧ b ≤ c.2.2.1 1 8 + 10) → c'.1 b k = c.1 b k := fun b k h1 h2 => by
        rw [← hc]
        exact (wi_k (by omega)).trans (fi.2 b k h1 h2)
      have e7 : c'.2.2.1 1 7 = c.2.2.1 1 7 := by rw [← hc]; exact q7
      have en : ∀ i, i ≤ 10 → c'.1 (c.2.2.1 1 7 + i) = c.1 (c.2.2.1 1 7 + i) := fun i hi => funext (fun k => ec _ k (by omega) (by omega))
      refine ⟨?_, CK.eq R.2.2 (ec 1 11 (by decide) (by omega)) e7 en (fun b k h1 h2 _ => ec b k (by omega) (by omega))⟩
      rw [e7]
      exact NR.eq R.2.1 en w1 w2
end RN
