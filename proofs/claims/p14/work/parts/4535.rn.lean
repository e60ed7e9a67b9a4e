/-! ===== the calls that explore: what they leave; states and right answer alike ===== -/
theorem CP.of {c m : dc_M} (R : RN c m) (len : (c.2.2.2 10).2 = 512) : CP (c.2.2.1 1 7) (c.2.2.1 1 8) c c := ⟨R.1.2.2, rfl, rfl, rfl, len, R.2.2, fun _ _ _ => rfl⟩
theorem kr_of {m : dc_M} : kr m m := fun _ _ _ => rfl
theorem RN.cpk {c m c' m' : dc_M} (R : RN c m) (C : CP (c.2.2.1 1 7) (c.2.2.1 1 8) c c') (K : kr m m') : RN c' m' := by
  obtain ⟨h1, h2, h3, h4, h5, h6, h7⟩ := C
  have kk : ∀ k, k = 0 ∨ k = 3 ∨ k = 10 ∨ k = 11 ∨ k = 13 ∨ k = 14 → m'.1 82 k = m.1 82 k := fun k hk => K 82 k (by unfold krc; omega)
  have kb : ∀ b, 83 ≤ b → b ≤ 91 → m'.1 b = m.1 b := fun b q1 q2 => funext (fun k => K b k (by unfold krc; omega))
  have en : ∀ i, i ≤ 10 → c'.1 (c.2.2.1 1 7 + i) = c.1 (c.2.2.1 1 7 + i) := fun i hi => funext (fun k => h7 _ k (by omega))
  refine ⟨⟨tp.up R.1.1 (h7 2 1 (by omega)) (fun j => h7 3 j (by omega)) (kk 13 (by omega)) (fun j => by rw [kb 91 (by omega) (by omega)]), by rw [h7 2 2 (by omega), kk 14 (by omega)]; exact R.1.2.1, by rw [h2, h3]; exact R.1.2.2⟩, ?_, h6⟩
  rw [h2]
  exact NR.eq R.2.1 en (fun k hk => kk k (by omega)) (fun b q1 q2 => kb b q1 (by omega))
theorem vt_10 {z L : Nat} {xs : Nat → Int32} {h : ab_H} (hh : sx_h sx_SP z L xs h) : ((dc_vw h).2.2.2 10).2 = 512 := by
  obtain ⟨f, r, -⟩ := nw_a (a := 10) rfl (by decide) (by decide) hh
  have r := (ab_rd_of r).2
  show (dc_vt (h.2.2 10)).2 = 512
  rw [r]
  rfl
theorem vr_86 {z L : Nat} {xs : Nat → Int32} {h : ab_H} (hh : sx_h sx_SP z L xs h) : ∀ k, k < 16 → 0 ≤ ((dc_vw h).1 86 k).toInt ∧ ((dc_vw h).1 86 k).toInt ≤ 1 := fun k hk => gd_ba (c := 86) (lo := 0) (hi := 1) hh rfl (by decide) (by decide) hk
theorem RN.p7 {c m c' m' : dc_M} {v v' : Int32} (len : (c.2.2.2 10).2 = 512) (R : RN c m) (f : d_X9_states 1 c = some (v, c')) (g : d_X10_states 82 m = some (v', m')) : v = v' ∧ RN c' m' := by
  refine ⟨?_, R.cpk (cp_X9_states (CP.of R len) f) (kr_X10_states kr_of g)⟩
  have ha := md41 R.1.2.2
  unfold d_X9_states at f
  rw [show 1 + 3 = 4 from rfl] at f
  cases hq : d_X9_explore 1 c with
  | none => rw [hq] at f; cases f
  | some q =>
    rw [hq, Option.bind_some] at f
    obtain ⟨k1, k2, k3, k4⟩ := ck_ex ha rfl len R.2.2 hq
    unfold d_X10_states at g
    cases hy : d_X10_layStates 82 m with
    | none => rw [hy] at g; cases g
    | some y =>
      rw [hy, Option.bind_some] at g
      have a7 : q.2.2.1 1 7 = c.2.2.1 1 7 := by rw [k4]
      have N : NR (c.2.2.1 1 7) q m := NR.eq R.2.1 (fun i hi => funext (fun k => k3 _ k (by omega) (by omega))) (fun _ _ => rfl) (fun _ _ _ => rfl)
      rcases ck_st ha a7 k1 k2 N hy with ⟨e1, e2, e3⟩ | ⟨w, e1, e2, e3, e4⟩
      · rw [if_pos (by rw [e1]; rfl)] at f
        rw [if_neg (by rw [e2]; exact fun q => q rfl)] at g
        cases f
        cases g
        exact e3.symm
      · rw [if_neg (by rw [e1]; rcases e2 with r | r <;> rw [r] <;> decide)] at f
        rw [if_pos (by rw [e3]; rcases e2 with r | r <;> rw [r] <;> decide)] at g
        exact ((Prod.mk.inj (Option.some.inj f)).1.symm.trans (e1.trans e4.symm)).trans (Prod.mk.inj (Option.some.inj g)).1
theorem RN.p8 {c m c' m' : dc_M} {v v' : Int32} (len : (c.2.2.2 10).2 = 512) (hr : ∀ k, k < 16 → 0 ≤ (m.1 86 k).toInt ∧ (m.1 86 k).toInt ≤ 1) (R : RN c m) (f : d_X9_right 1 c = some (v, c')) (g : d_X10_right 82 m = some (v', m')) : v = v' ∧ RN c' m' := by
  refine ⟨?_, R.cpk (cp_X9_right (CP.of R len) f) (kr_X10_right kr_of g)⟩
  have ha := md41 R.1.2.2
  unfold d_X9_right d_X9_isRight at f
  rw [show 1 + 3 = 4 from rfl] at f
  cases hq : d_X9_explore 1 c with
  | none => rw [hq] at f; cases f
  | some q =>
    rw [hq, Option.bind_some, Option.bind_some] at f
    obtain ⟨k1, k2, k3, k4⟩ := ck_ex ha rfl len R.2.2 hq
    unfold d_X10_right at g
    cases hy : d_X10_layRight 82 m with
    | none => rw [hy] at g; cases g
    | some y =>
      rw [hy, Option.bind_some] at g
      have a7 : q.2.2.1 1 7 = c.2.2.1 1 7 := by rw [k4]
      have N : NR (c.2.2.1 1 7) q m := NR.eq R.2.1 (fun i hi => funext (fun k => k3 _ k (by omega) (by omega))) (fun _ _ => rfl) (fun _ _ _ => rfl)
      obtain ⟨S, e, -⟩ := ck_sp ha a7 k1 k2 N hr hy
      have e2 : q.1 4 3 = y.1 := by
        rw [e]
        rcases S with ⟨-, -, n, -, -, -, -, s3, -⟩ | ⟨w, -, -, -, -, s3, s4⟩
        · exact s3
        · rw [s3, s4]
      have f : (if (y.1).toInt = 0 then some ((0 : Int32), q) else some ((1 : Int32), q)) = some (v, c') := by rw [← e2]; exact f
      by_cases h0 : (y.1).toInt = 0
      · rw [if_pos h0] at f g
        cases f
        cases g
        rfl
      · rw [if_neg h0] at f g
        cases f
        cases g
        rfl
