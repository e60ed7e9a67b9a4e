/-- a call of which is known what it says if it ends -/
theorem pa_cp {N d : Nat} {M M' : ab_M} {pc : Nat} {lv lv0 : ab_L} {st rest A : List Value} {h : ab_H} {Q Q' : Option Value → ab_H → Prop} {it : ab_I} (h1 : ab_at M.2.2.2.2.2 pc = some it) (h2 : ab_kd it = 2) (h3 : ab_cal ab_G it st h = some (M', A, rest)) (hl : lv_args 0 A = lv0) (k1 : ∀ N, ab_pa N d M' 0 lv0 [] h Q') (k2 : ∀ r h', Q' r h' → ab_pa N (d + 1) M (pc + 3) lv (r.toList ++ rest) h' Q) : ab_pa N (d + 1) M pc lv st h Q := fun n hn r g hx => by
  subst hl
  cases n with
  | zero => cases hx
  | succ n =>
    unfold ab_ex at hx
    simp only [h1, h2, h3] at hx
    cases e : ab_ex ab_G n d M' 0 (lv_args 0 A) [] h with
    | none => rw [e] at hx; cases hx
    | some q =>
      rw [e] at hx
      exact k2 q.1 q.2 (k1 n n (Nat.le_refl _) q.1 q.2 e) n (by omega) r g hx
theorem ll_cal {h : ab_H} {P R : Int32} {rest ws : List Value} (hw : (rest.map fun v => v.category).sum ≤ 8) (h82 : ab_rd h 82 = some (.inr (10, ws))) {i ix : Nat} : ab_cal ab_G (ab_c (.invokevirtual i) 0 174 2 ix) (.int R :: .int P :: .ref 82 :: rest) h = some (ab_M_X10_layLevels, [.ref 82, .int P, .int R], rest) := ab_cal_v (As := [.int P, .int R]) rfl (show ab_G 174 = some ab_M_X10_layLevels from rfl) rfl h82 rfl rfl (by unfold ab_cok; rw [Bool.and_eq_true]; exact ⟨rfl, decide_eq_true hw⟩) rfl
