/-! ===== what all pure texts share ===== -/
theorem di_lt {x y : Int64} : (lg_cmp x y).toInt < 0 ↔ x.toInt < y.toInt := (ab_cd_i .lt (lg_cmp x y) 0).symm.trans (ab_cd_l .lt x y)
theorem di_gt {x y : Int64} : 0 < (lg_cmp x y).toInt ↔ y.toInt < x.toInt := (ab_cd_i .gt (lg_cmp x y) 0).symm.trans (ab_cd_l .gt x y)
theorem di_in {x y w : Int64} {m : dc_M} : d_X10_in x y w m = if y.toInt ≤ x.toInt ∧ x.toInt ≤ w.toInt then 1 else 0 := by
  unfold d_X10_in
  by_cases h1 : x.toInt < y.toInt
  · rw [if_pos (di_lt.mpr h1), if_neg (by omega)]
  · rw [if_neg (fun q => h1 (di_lt.mp q))]
    by_cases h2 : w.toInt < x.toInt
    · rw [if_pos (di_gt.mpr h2), if_neg (by omega)]
    · rw [if_neg (fun q => h2 (di_gt.mp q)), if_pos (by omega)]
theorem di_il {x : Int32} : (Int32.toInt64 x).toInt = x.toInt := Int32.toInt_toInt64 x
theorem di_ine {p : Prop} [Decidable p] : ((if p then (1 : Int32) else 0).toInt = 0) ↔ ¬ p := by
  by_cases h : p
  · rw [if_pos h]; exact ⟨fun q => absurd q (by decide), fun q => absurd h q⟩
  · rw [if_neg h]; exact ⟨fun _ => h, fun _ => by decide⟩
theorem wi_1 {m : dc_M} {a k b j : Nat} {v : Int32} : (dc_wi m a k v).1 b j = if b = a ∧ j = k then v else m.1 b j := rfl
theorem wi_o {m : dc_M} {a k b j : Nat} {v : Int32} (h : ¬ b = a) : (dc_wi m a k v).1 b j = m.1 b j := if_neg (fun z => h z.1)
theorem ab_go.imp {h : ab_H} {d : Nat} {M : ab_M} {pc : Nat} {lv : ab_L} {st : List Value} {P P' : Option Value → ab_H → Prop} (g : ab_go d M pc lv st h P) (k : ∀ r h', P r h' → P' r h') : ab_go d M pc lv st h P' := by
  obtain ⟨n, r, h', e, p⟩ := g
  exact ⟨n, r, h', e, k r h' p⟩
theorem dc_mb {σ τ : Type} {f : σ → Option (σ ⊕ τ)} {x : Option τ} : (x.map (fun z => Sum.inr z)).bind (dc_bk f) = x := by
  cases x <;> rfl
