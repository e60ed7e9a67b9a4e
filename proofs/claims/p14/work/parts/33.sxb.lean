theorem sx_ts_ins (β : Nat → Int) (s : Nat) (c : Int) : ∀ l : sx_T, sx_ts β (sx_ins s c l) = c * β s + sx_ts β l
  | [] => by
    unfold sx_ins
    by_cases h : c = 0
    · rw [if_pos h, h]; simp [sx_ts]
    · rw [if_neg h]; simp [sx_ts]
  | t :: r => by
    unfold sx_ins
    by_cases h : t.1 = s
    · rw [if_pos h]
      by_cases h2 : t.2 + c = 0
      · rw [if_pos h2]
        have h3 : c = -t.2 := by omega
        subst h3
        simp only [sx_ts, h, Int.neg_mul]
        omega
      · rw [if_neg h2]
        simp only [sx_ts, h, Int.add_mul]
        omega
    · rw [if_neg h]
      by_cases h2 : s < t.1
      · rw [if_pos h2]
        by_cases h3 : c = 0
        · rw [if_pos h3, h3]; simp
        · rw [if_neg h3]; simp only [sx_ts]
      · rw [if_neg h2]
        simp only [sx_ts, sx_ts_ins β s c r]
        omega
theorem sx_ts_adt (β : Nat → Int) (k : Int) (a : sx_T) : ∀ b : sx_T, sx_ts β (sx_adt k a b) = sx_ts β a + k * sx_ts β b
  | [] => by simp [sx_adt, sx_ts]
  | t :: r => by
    have ih := sx_ts_adt β k a r
    unfold sx_adt at ih ⊢
    rw [List.foldr_cons, sx_ts_ins, ih]
    simp only [sx_ts, Int.mul_add, Int.mul_assoc]
    omega
theorem sx_ev_add (β : Nat → Int) (a b : sx_E) : sx_ev β (sx_add a b) = sx_ev β a + sx_ev β b := by
  simp only [sx_ev, sx_add, sx_ts_adt]; omega
theorem sx_ev_sub (β : Nat → Int) (a b : sx_E) : sx_ev β (sx_sub a b) = sx_ev β a - sx_ev β b := by
  simp only [sx_ev, sx_sub, sx_ts_adt]; omega
theorem sx_ts_map (β : Nat → Int) (k : Int) : ∀ l : sx_T, sx_ts β (l.map (fun t => (t.1, k * t.2))) = k * sx_ts β l
  | [] => by simp [sx_ts]
  | t :: r => by
    simp only [List.map_cons, sx_ts, sx_ts_map β k r, Int.mul_add, Int.mul_assoc]
theorem sx_ev_mk (β : Nat → Int) (k : Int) (a : sx_E) : sx_ev β (sx_mk k a) = k * sx_ev β a := by
  unfold sx_mk
  by_cases h : k = 0
  · rw [if_pos h, h]; simp [sx_ev, sx_ts]
  · rw [if_neg h]; simp only [sx_ev, sx_ts_map, Int.mul_add]
theorem sx_ev_neg (β : Nat → Int) (a : sx_E) : sx_ev β (sx_neg a) = - sx_ev β a := by
  unfold sx_neg
  rw [sx_ev_mk]; omega
theorem sx_ev_ak (β : Nat → Int) (a : sx_E) (k : Int) : sx_ev β (sx_ak a k) = sx_ev β a + k := by
  simp only [sx_ev, sx_ak]; omega
theorem sx_ev_K (β : Nat → Int) (k : Int) : sx_ev β (sx_K k) = k := by simp [sx_ev, sx_K, sx_ts]
theorem sx_ev_Y (β : Nat → Int) (s : Nat) : sx_ev β (sx_Y s) = β s := by simp [sx_ev, sx_Y, sx_ts]
theorem sx_ev_sbt (β : Nat → Int) (σ : Nat → sx_E) : ∀ t : sx_T, sx_ev β (sx_sbt σ t) = sx_ts (fun s => sx_ev β (σ s)) t
  | [] => by simp [sx_sbt, sx_ev, sx_ts]
  | t :: r => by
    simp only [sx_sbt, sx_ev_add, sx_ev_mk, sx_ev_sbt β σ r, sx_ts]; omega
theorem sx_ev_sb (β : Nat → Int) (σ : Nat → sx_E) (e : sx_E) : sx_ev β (sx_sb σ e) = sx_ev (fun s => sx_ev β (σ s)) e := by
  unfold sx_sb
  rw [sx_ev_ak, sx_ev_sbt]
  simp only [sx_ev]; omega
def sx_oN (N : sx_N) (β : Nat → Int) : Prop := ∀ q ∈ N, q.2.1 ≤ β q.1 ∧ β q.1 ≤ q.2.2
def sx_oF (fa : List sx_E) (β : Nat → Int) : Prop := ∀ f ∈ fa, sx_ev β f ≤ 0
theorem sx_lu_ok {β : Nat → Int} {s : Nat} {b : Int × Int} : ∀ {N : sx_N}, sx_oN N β → sx_lu s N = some b → b.1 ≤ β s ∧ β s ≤ b.2
  | [], _, h => by cases h
  | q :: r, hN, h => by
    unfold sx_lu at h
    by_cases hq : q.1 = s
    · rw [if_pos hq] at h
      cases h
      subst hq
      exact hN q List.mem_cons_self
    · rw [if_neg hq] at h
      exact sx_lu_ok (fun p hp => hN p (List.mem_cons_of_mem _ hp)) h
theorem sx_bh_ok {β : Nat → Int} {N : sx_N} (hN : sx_oN N β) : ∀ {t : sx_T} {a x : Int}, sx_bh N t a = some x → a + sx_ts β t ≤ x
  | [], a, x, h => by
    cases h
    simp [sx_ts]
  | t :: r, a, x, h => by
    unfold sx_bh at h
    split at h
    · cases h
    · rename_i b hb
      have h1 := sx_lu_ok hN hb
      have h2 := sx_bh_ok hN h
      simp only [sx_ts]
      by_cases ht : 0 < t.2
      · rw [if_pos ht] at h2
        have h3 := Int.mul_le_mul_of_nonneg_left h1.2 (Int.le_of_lt ht)
        omega
      · rw [if_neg ht] at h2
        have h3 := Int.mul_le_mul_of_nonpos_left (show t.2 ≤ 0 by omega) h1.1
        omega
theorem sx_min_ok {y : Int} {a b : Option Int} (ha : ∀ x, a = some x → y ≤ x) (hb : ∀ x, b = some x → y ≤ x) : ∀ x, sx_min a b = some x → y ≤ x := by
  intro x h
  unfold sx_min at h
  split at h
  · exact hb x h
  · exact ha x h
  · rename_i u v
    cases h
    have h1 := ha u rfl
    have h2 := hb v rfl
    split
    · exact h2
    · exact h1
theorem sx_mu_nn (e : sx_T) : ∀ f : sx_T, 0 ≤ sx_mu e f
  | [] => Int.le_refl _
  | t :: r => by
    unfold sx_mu
    split
    · split
      · decide
      · exact Int.natCast_nonneg _
    · exact sx_mu_nn e r
theorem sx_hi_ok {β : Nat → Int} {N : sx_N} {fa : List sx_E} (hN : sx_oN N β) (hF : sx_oF fa β) {e : sx_E} : ∀ {x : Int}, sx_hi N fa e = some x → sx_ev β e ≤ x := by
  have key : ∀ (l : List sx_E) (b : Option Int), sx_oF l β → (∀ x, b = some x → sx_ev β e ≤ x) → ∀ x, l.foldl (fun b f => if sx_sh e.2 f.2 = true then sx_min b (sx_bh N (sx_adt (-(sx_mu e.2 f.2)) e.2 f.2) (e.1 - sx_mu e.2 f.2 * f.1)) else b) b = some x → sx_ev β e ≤ x := by
    intro l
    induction l with
    | nil => intro b _ hb x h; exact hb x h
    | cons f r ih =>
      intro b hl hb x h
      rw [List.foldl_cons] at h
      refine ih _ (fun g hg => hl g (List.mem_cons_of_mem _ hg)) ?_ x h
      split
      · refine sx_min_ok hb (fun y hy => ?_)
        have h1 := sx_bh_ok hN hy
        have h2 := hl f List.mem_cons_self
        rw [sx_ts_adt] at h1
        have h3 := Int.mul_nonneg (sx_mu_nn e.2 f.2) (show 0 ≤ -(f.1 + sx_ts β f.2) by simp only [sx_ev] at h2; omega)
        rw [Int.mul_neg, Int.mul_add] at h3
        rw [Int.neg_mul] at h1
        simp only [sx_ev]
        omega
      · exact hb
  intro x h
  unfold sx_hi at h
  split at h
  · rename_i h0
    cases h
    simp [sx_ev, h0, sx_ts]
  · exact key fa _ hF (fun y hy => by have := sx_bh_ok hN hy; simp only [sx_ev]; omega) x h
theorem sx_le1_ok {b : Option Int} {k : Int} (h : sx_le1 b k = true) : ∃ x, b = some x ∧ x ≤ k := by
  unfold sx_le1 at h
  split at h
  · rename_i x
    exact ⟨x, rfl, of_decide_eq_true h⟩
  · cases h
theorem sx_leN_ok {β : Nat → Int} {N : sx_N} {fa : List sx_E} (hN : sx_oN N β) (hF : sx_oF fa β) : ∀ (n : Nat) {e : sx_E}, sx_leN N fa n e = true → sx_ev β e ≤ 0
  | 0, e, h => by
    obtain ⟨x, h1, h2⟩ := sx_le1_ok h
    have := sx_hi_ok hN hF h1
    omega
  | n + 1, e, h => by
    unfold sx_leN at h
    rw [Bool.or_eq_true] at h
    rcases h with h | h
    · obtain ⟨x, h1, h2⟩ := sx_le1_ok h
      have := sx_hi_ok hN hF h1
      omega
    · split at h
      · cases h
      · obtain ⟨f, hf, h1⟩ := List.any_eq_true.mp h
        rw [Bool.and_eq_true] at h1
        have h2 := sx_leN_ok hN hF n h1.2
        have h3 := hF f hf
        rw [sx_ev_sub, sx_ev_mk] at h2
        have h4 := Int.mul_nonneg (sx_mu_nn e.2 f.2) (show 0 ≤ -(sx_ev β f) by omega)
        rw [Int.mul_neg] at h4
        omega
section SX2
variable {SP : List sx_C} {z L : Nat} {xs : Nat → Int32} {β : Nat → Int} {A B : sx_S} {lv : ab_L} {st : List Value} {h : ab_H}
def sx_at (SP : List sx_C) (z L : Nat) (xs : Nat → Int32) (A : sx_S) (β : Nat → Int) (lv : ab_L) (st : List Value) (h : ab_H) : Prop :=
  (∀ q ∈ A.1, ∃ w, ab_lk lv q.1 = some w ∧ sx_v β q.2 w) ∧ sx_st β A.2.1 st ∧ (∀ q ∈ A.2.2.1, ∃ w, sx_fd h q.1 = some w ∧ sx_v β q.2 w) ∧ (∀ q ∈ A.2.2.2.1, sx_el β q h) ∧ sx_oN A.2.2.2.2.1 β ∧ sx_oF A.2.2.2.2.2.1 β ∧ sx_h SP z L xs h
theorem sx_le_ok (g : sx_oN A.2.2.2.2.1 β ∧ sx_oF A.2.2.2.2.2.1 β) {e : sx_E} (hx : sx_le A e = true) : sx_ev β e ≤ 0 := by
  unfold sx_le at hx
  rw [Bool.or_eq_true] at hx
  rcases hx with hx | hx
  · exact sx_leN_ok g.1 g.2 3 hx
  · obtain ⟨f, hf, h1⟩ := List.any_eq_true.mp hx
    rw [Bool.and_eq_true] at h1
    obtain ⟨x, h2, h3⟩ := sx_le1_ok h1.2
    have h4 := sx_hi_ok g.1 g.2 h2
    have h5 := g.2 f hf
    rw [sx_ev_sub, sx_ev_mk] at h4
    omega
theorem sx_up_ok (g : sx_oN A.2.2.2.2.1 β ∧ sx_oF A.2.2.2.2.2.1 β) {e : sx_E} {x : Int} (hx : sx_up A e = some x) : sx_ev β e ≤ x := sx_hi_ok g.1 g.2 hx
theorem sx_lo_ok (g : sx_oN A.2.2.2.2.1 β ∧ sx_oF A.2.2.2.2.2.1 β) {e : sx_E} {x : Int} (hx : sx_lo A e = some x) : x ≤ sx_ev β e := by
  unfold sx_lo at hx
  split at hx
  · rename_i y hy
    cases hx
    have := sx_up_ok g hy
    rw [sx_ev_neg] at this
    omega
  · cases hx
theorem sx_in_ok (g : sx_oN A.2.2.2.2.1 β ∧ sx_oF A.2.2.2.2.2.1 β) {l u : Int} {e : sx_E} (hx : sx_in A l u e = true) : l ≤ sx_ev β e ∧ sx_ev β e ≤ u := by
  unfold sx_in at hx
  rw [Bool.and_eq_true] at hx
  have h1 := sx_le_ok g hx.1
  have h2 := sx_le_ok g hx.2
  rw [sx_ev_ak] at h1 h2
  rw [sx_ev_neg] at h2
  omega
theorem sx_set_ok {s : Nat} {l u : Int} (hb : l ≤ β s ∧ β s ≤ u) : ∀ {N : sx_N}, sx_oN N β → sx_oN (sx_set s l u N) β
  | [], _ => fun q hq => by
    rw [show sx_set s l u [] = [(s, l, u)] from rfl, List.mem_singleton] at hq
    subst hq
    exact hb
  | p :: r, hN => fun q hq => by
    unfold sx_set at hq
    by_cases hp : p.1 = s
    · rw [if_pos hp] at hq
      rcases List.mem_cons.mp hq with rfl | hq
      · exact hb
      · exact hN q (List.mem_cons_of_mem _ hq)
    · rw [if_neg hp] at hq
      rcases List.mem_cons.mp hq with rfl | hq
      · exact hN q List.mem_cons_self
      · exact sx_set_ok hb (fun p hp => hN p (List.mem_cons_of_mem _ hp)) q hq
theorem sx_nr1_ok {e : sx_E} (he : sx_ev β e ≤ 0) {N : sx_N} (hN : sx_oN N β) (t : Nat × Int) : sx_oN (sx_nr1 e N t) β := by
  unfold sx_nr1
  split
  · rename_i l b hl hb
    have h1 := sx_bh_ok hN hl
    have h2 := sx_lu_ok hN hb
    have h3 := sx_ev_mk β (-1) (0, sx_ins t.1 (-t.2) e.2)
    have h4 : sx_ev β (sx_mk (-1) (0, sx_ins t.1 (-t.2) e.2)) = sx_ts β (sx_mk (-1) (0, sx_ins t.1 (-t.2) e.2)).2 := by
      simp [sx_ev, sx_mk]
    have h5 : sx_ev β (0, sx_ins t.1 (-t.2) e.2) = -t.2 * β t.1 + sx_ts β e.2 := by simp [sx_ev, sx_ts_ins]
    rw [h4, h5] at h3
    rw [h3] at h1
    simp only [sx_ev] at he
    have h6 : β t.1 * t.2 ≤ l := by
      have : -t.2 * β t.1 = -(β t.1 * t.2) := by rw [Int.neg_mul, Int.mul_comm]
      rw [this] at h1
      omega
    by_cases ht : 0 < t.2
    · rw [if_pos ht]
      split
      · exact sx_set_ok ⟨h2.1, (Int.le_ediv_iff_mul_le ht).mpr h6⟩ hN
      · exact hN
    · rw [if_neg ht]
      split
      · rename_i hlt
        refine sx_set_ok ⟨?_, h2.2⟩ hN
        have h7 : -β t.1 ≤ l / (-t.2) := (Int.le_ediv_iff_mul_le (by omega)).mpr (by rw [Int.neg_mul_neg]; exact h6)
        omega
      · exact hN
  · exact hN
theorem sx_nr_ok {e : sx_E} (he : sx_ev β e ≤ 0) {N : sx_N} (hN : sx_oN N β) : sx_oN (sx_nr e N) β := by
  unfold sx_nr
  generalize e.2 = l
  induction l generalizing N with
  | nil => exact hN
  | cons t r ih => rw [List.foldl_cons]; exact ih (sx_nr1_ok he hN t)
theorem sx_as_ok (g : sx_at SP z L xs A β lv st h) {e : sx_E} (he : sx_ev β e ≤ 0) : ∃ B, sx_as A e = some B ∧ sx_at SP z L xs B β lv st h ∧ B.2.2.2.2.2.2 = A.2.2.2.2.2.2 := by
  have gg : sx_oN A.2.2.2.2.1 β ∧ sx_oF A.2.2.2.2.2.1 β := ⟨g.2.2.2.2.1, g.2.2.2.2.2.1⟩
  unfold sx_as
  split
  · rename_i h1
    obtain ⟨x, h2, h3⟩ := sx_le1_ok h1
    have := sx_up_ok gg h2
    rw [sx_ev_neg] at this
    omega
  · split
    · exact ⟨A, rfl, g, rfl⟩
    · dsimp only
      have hN := sx_nr_ok he gg.1
      split
      · rename_i hv
        obtain ⟨t, ht, h1⟩ := List.any_eq_true.mp hv
        split at h1
        · rename_i b hb
          have := sx_lu_ok hN hb
          have := of_decide_eq_true h1
          omega
        · cases h1
      · refine ⟨_, rfl, ⟨g.1, g.2.1, g.2.2.1, g.2.2.2.1, hN, ?_, g.2.2.2.2.2.2⟩, rfl⟩
        show sx_oF (match e.2 with
          | _ :: _ :: _ => A.2.2.2.2.2.1 ++ [e]
          | _ => A.2.2.2.2.2.1) β
        split
        · intro f hf
          rcases List.mem_append.mp hf with hf | hf
          · exact gg.2 f hf
          · rw [List.mem_singleton] at hf
            subst hf
            exact he
        · exact gg.2
theorem sx_ass_ok : ∀ {es : List sx_E} {A : sx_S}, sx_at SP z L xs A β lv st h → (∀ e ∈ es, sx_ev β e ≤ 0) → ∃ B, sx_ass es A = some B ∧ sx_at SP z L xs B β lv st h ∧ B.2.2.2.2.2.2 = A.2.2.2.2.2.2
  | [], A, g, _ => ⟨A, rfl, g, rfl⟩
  | e :: r, A, g, he => by
    obtain ⟨B, h1, h2, h3⟩ := sx_as_ok g (he e List.mem_cons_self)
    obtain ⟨C, h4, h5, h6⟩ := sx_ass_ok h2 (fun f hf => he f (List.mem_cons_of_mem _ hf))
    refine ⟨C, ?_, h5, h6.trans h3⟩
    unfold sx_ass
    rw [h1]
    exact h4
end SX2
