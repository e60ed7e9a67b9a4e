/-! ===== one instruction of a block at a time ===== -/
section DW
variable {u n pc pc' p1 p2 : Nat} {C : List (Nat × dc_H)} {S : List (Nat × List Nat)} {M : ab_M} {L L' : ab_L} {st st' : List Value} {m m' : dc_M} {it : ab_I} {X : Option dc_X → Prop}
/-- what stands behind an instruction -/
def dc_nx (u : Nat) (C : List (Nat × dc_H)) (S : List (Nat × List Nat)) (M : ab_M) (n : Nat) : dc_K := fun pc' L' st' m' => match dc_lu S pc' with
  | some li => some (.inr (.inl (pc', li.map (fun i => (i, ab_lk L' i)), st', m')))
  | none => dc_pm u C S M n pc' L' st' m'
theorem dc_pm_s (h1 : ab_at M.2.2.2.2.2 pc = some it) : dc_pm u C S M (n + 1) pc L st m = dc_one u C M.2.2.1 it pc L st m (dc_nx u C S M n) := by
  conv => lhs; unfold dc_pm
  rw [h1]
  rfl
theorem dc_nx_g (h3 : dc_lu S pc' = none) : dc_nx u C S M n pc' L' st' m' = dc_pm u C S M n pc' L' st' m' := by
  unfold dc_nx
  rw [h3]
theorem dc_nx_j {li : List Nat} (h3 : dc_lu S pc' = some li) : dc_nx u C S M n pc' L' st' m' = some (.inr (.inl (pc', li.map (fun i => (i, ab_lk L' i)), st', m'))) := by
  unfold dc_nx
  rw [h3]
theorem dw_s (st' : List Value) (h1 : ab_at M.2.2.2.2.2 pc = some it) (h2 : ∀ k : dc_K, dc_one u C M.2.2.1 it pc L st m k = k pc' L st' m) (kk : X (dc_nx u C S M n pc' L st' m)) : X (dc_pm u C S M (n + 1) pc L st m) := by
  rw [dc_pm_s h1, h2]
  exact kk
theorem dw_L (L' : ab_L) (st' : List Value) (h1 : ab_at M.2.2.2.2.2 pc = some it) (h2 : ∀ k : dc_K, dc_one u C M.2.2.1 it pc L st m k = k pc' L' st' m) (kk : X (dc_nx u C S M n pc' L' st' m)) : X (dc_pm u C S M (n + 1) pc L st m) := by
  rw [dc_pm_s h1, h2]
  exact kk
theorem dw_m (m' : dc_M) (st' : List Value) (h1 : ab_at M.2.2.2.2.2 pc = some it) (h2 : ∀ k : dc_K, dc_one u C M.2.2.1 it pc L st m k = k pc' L st' m') (kk : X (dc_nx u C S M n pc' L st' m')) : X (dc_pm u C S M (n + 1) pc L st m) := by
  rw [dc_pm_s h1, h2]
  exact kk
theorem dw_g (h3 : dc_lu S pc = none) (kk : X (dc_pm u C S M n pc L st m)) : X (dc_nx u C S M n pc L st m) := by
  rw [dc_nx_g h3]
  exact kk
theorem dg_s (st' : List Value) (h1 : ab_at M.2.2.2.2.2 pc = some it) (h2 : ∀ k : dc_K, dc_one u C M.2.2.1 it pc L st m k = k pc' L st' m) (h3 : dc_lu S pc' = none) (kk : X (dc_pm u C S M n pc' L st' m)) : X (dc_pm u C S M (n + 1) pc L st m) := dw_s st' h1 h2 (dw_g h3 kk)
theorem dg_L (L' : ab_L) (st' : List Value) (h1 : ab_at M.2.2.2.2.2 pc = some it) (h2 : ∀ k : dc_K, dc_one u C M.2.2.1 it pc L st m k = k pc' L' st' m) (h3 : dc_lu S pc' = none) (kk : X (dc_pm u C S M n pc' L' st' m)) : X (dc_pm u C S M (n + 1) pc L st m) := dw_L L' st' h1 h2 (dw_g h3 kk)
theorem dg_m (m' : dc_M) (st' : List Value) (h1 : ab_at M.2.2.2.2.2 pc = some it) (h2 : ∀ k : dc_K, dc_one u C M.2.2.1 it pc L st m k = k pc' L st' m') (h3 : dc_lu S pc' = none) (kk : X (dc_pm u C S M n pc' L st' m')) : X (dc_pm u C S M (n + 1) pc L st m) := dw_m m' st' h1 h2 (dw_g h3 kk)
theorem dw_r (x : Option dc_X) (h1 : ab_at M.2.2.2.2.2 pc = some it) (h2 : ∀ k : dc_K, dc_one u C M.2.2.1 it pc L st m k = x) (kk : X x) : X (dc_pm u C S M (n + 1) pc L st m) := by
  rw [dc_pm_s h1, h2]
  exact kk
end DW
section DW2
variable {u N n pc pc' p1 p2 : Nat} {C : List (Nat × dc_H)} {S : List (Nat × List Nat)} {M : ab_M} {L L' : ab_L} {st st' : List Value} {m m' : dc_M} {it : ab_I} {Q : Option Value → dc_M → Prop}
theorem dw_j {li : List Nat} (h3 : dc_lu S pc = some li) (kk : ∀ lv1, dc_fs (li.map (fun i => (i, ab_lk L i))) lv1 → dc_pv u N M pc lv1 st m Q) : dc_lf u N M Q (dc_nx u C S M n pc L st m) := by
  rw [dc_nx_j h3]
  exact kk
theorem dw_if {T : Type} (Φ : T → Option Value → dc_M → Prop) {a b : T} (c : Prop) {dc : Decidable c} (st' : List Value) (p1 p2 : Nat) (h1 : ab_at M.2.2.2.2.2 pc = some it) (h2 : ∀ k : dc_K, dc_one u C M.2.2.1 it pc L st m k = @ite _ c dc (k p1 L st' m) (k p2 L st' m)) (ka : c → dc_lf u N M (Φ a) (dc_nx u C S M n p1 L st' m)) (kb : ¬ c → dc_lf u N M (Φ b) (dc_nx u C S M n p2 L st' m)) : dc_lf u N M (Φ (@ite _ c dc a b)) (dc_pm u C S M (n + 1) pc L st m) := by
  rw [dc_pm_s h1, h2]
  by_cases h : c
  · rw [if_pos h, if_pos h]; exact ka h
  · rw [if_neg h, if_neg h]; exact kb h
theorem dw_ifl {T : Type} (Φ : T → Option Value → dc_M → Prop) {b : T} (c : Prop) {dc : Decidable c} (st' : List Value) (p1 p2 : Nat) (h1 : ab_at M.2.2.2.2.2 pc = some it) (h2 : ∀ k : dc_K, dc_one u C M.2.2.1 it pc L st m k = @ite _ c dc (k p1 L st' m) (k p2 L st' m)) (ka : c → dc_lf u N M (Φ b) (dc_nx u C S M n p1 L st' m)) (kb : ¬ c → dc_lf u N M (Φ b) (dc_nx u C S M n p2 L st' m)) : dc_lf u N M (Φ b) (dc_pm u C S M (n + 1) pc L st m) := by
  rw [dc_pm_s h1, h2]
  by_cases h : c
  · rw [if_pos h]; exact ka h
  · rw [if_neg h]; exact kb h
/-- a table -/
theorem dw_sw {T : Type} (Φ : T → Option Value → dc_M → Prop) {t : T} (x : Int) (d : Nat) (tb : List (Int × Nat)) (st' : List Value) (h1 : ab_at M.2.2.2.2.2 pc = some it) (h2 : ∀ k : dc_K, dc_one u C M.2.2.1 it pc L st m k = dc_ts x d (fun p => k p L st' m) tb) (kk : dc_lf u N M (Φ t) (dc_ts x d (fun p => dc_nx u C S M n p L st' m) tb)) : dc_lf u N M (Φ t) (dc_pm u C S M (n + 1) pc L st m) := by
  rw [dc_pm_s h1, h2]
  exact kk
theorem dw_ts {T : Type} (Φ : T → Option Value → dc_M → Prop) {a b : T} {x : Int} {d j : Nat} {i : Int} {tb : List (Int × Nat)} {f : Nat → Option dc_X} (ka : x = i → dc_lf u N M (Φ a) (f j)) (kb : ¬ x = i → dc_lf u N M (Φ b) (dc_ts x d f tb)) : dc_lf u N M (Φ (if x = i then a else b)) (dc_ts x d f ((i, j) :: tb)) := by
  unfold dc_ts
  by_cases h : x = i
  · rw [if_pos h, if_pos h]; exact ka h
  · rw [if_neg h, if_neg h]; exact kb h
theorem dw_t0 {x : Int} {d : Nat} {f : Nat → Option dc_X} (k : dc_lf u N M Q (f d)) : dc_lf u N M Q (dc_ts x d f []) := k
theorem dw_b {T A : Type} (Φ : Option T → Option Value → dc_M → Prop) {F : Option A} {a : A → Option T} (rs : A → List Value) (mm : A → dc_M) (h1 : ab_at M.2.2.2.2.2 pc = some it) (h2 : ∀ k : dc_K, dc_one u C M.2.2.1 it pc L st m k = F.bind (fun q => k pc' L (rs q) (mm q))) (kk : ∀ q, dc_lf u N M (Φ (a q)) (dc_nx u C S M n pc' L (rs q) (mm q))) : dc_lf u N M (Φ (F.bind a)) (dc_pm u C S M (n + 1) pc L st m) := by
  rw [dc_pm_s h1, h2]
  cases F with
  | none => exact trivial
  | some q => exact kk q
theorem dw_l {T A : Type} (Φ : T → Option Value → dc_M → Prop) {F : A} {a : A → T} (rs : A → List Value) (mm : A → dc_M) (h1 : ab_at M.2.2.2.2.2 pc = some it) (h2 : ∀ k : dc_K, dc_one u C M.2.2.1 it pc L st m k = dc_let F (fun q => k pc' L (rs q) (mm q))) (kk : ∀ q, dc_lf u N M (Φ (a q)) (dc_nx u C S M n pc' L (rs q) (mm q))) : dc_lf u N M (Φ (dc_let F a)) (dc_pm u C S M (n + 1) pc L st m) := by
  rw [dc_pm_s h1, h2]
  exact kk F
end DW2
