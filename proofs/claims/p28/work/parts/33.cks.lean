/-! ===== the checker is sound (draft) ===== -/
theorem ck_i_up {β β' : Nat → Int} {nx nx' : Nat} {v : ck_I} {x : Int32} (hn : nx ≤ nx') (hb : ∀ s, s < nx → β' s = β s) (h : ck_i β nx v x) : ck_i β' nx' v x := ⟨Nat.lt_of_lt_of_le h.1 hn, h.2.1, h.2.2.1, by rw [hb _ h.1]; exact h.2.2.2⟩
theorem ck_v_up {β β' : Nat → Int} {nx nx' : Nat} {v : ck_V} {w : Value} (hn : nx ≤ nx') (hb : ∀ s, s < nx → β' s = β s) (h : ck_v β nx v w) : ck_v β' nx' v w := by
  cases v with
  | inl i => cases w with
    | int x => exact ck_i_up hn hb h
    | _ => exact h
  | inr q => cases w <;> exact h
theorem ck_st_up {β β' : Nat → Int} {nx nx' : Nat} (hn : nx ≤ nx') (hb : ∀ s, s < nx → β' s = β s) : ∀ {vs : List ck_V} {ws : List Value}, ck_st β nx vs ws → ck_st β' nx' vs ws
  | [], [], _ => trivial
  | _ :: _, _ :: _, h => ⟨ck_v_up hn hb h.1, ck_st_up hn hb h.2⟩
  | [], _ :: _, h => h.elim
  | _ :: _, [], h => h.elim
theorem ck_ri_ok {β : Nat → Int} {nx s : Nat} {lo hi : Int} {v : ck_I} {x : Int32} (hs : lo ≤ β s ∧ β s ≤ hi) (h : ck_i β nx v x) : ck_i β nx (ck_ri s lo hi v) x := by
  obtain ⟨l, u, s0, c0⟩ := v
  obtain ⟨h1, h2, h3, h4⟩ := h
  dsimp only at h1 h2 h3 h4
  unfold ck_ri
  dsimp only
  split
  · rename_i e
    subst e
    refine ⟨h1, ?_, ?_, h4⟩
    · show max l (lo + c0) ≤ x.toInt
      omega
    · show x.toInt ≤ min u (hi + c0)
      omega
  · exact ⟨h1, h2, h3, h4⟩
theorem ck_rv_ok {β : Nat → Int} {nx s : Nat} {lo hi : Int} {v : ck_V} {w : Value} (hs : lo ≤ β s ∧ β s ≤ hi) (h : ck_v β nx v w) : ck_v β nx (ck_rv s lo hi v) w := by
  cases v with
  | inl i => cases w with
    | int x => exact ck_ri_ok hs h
    | _ => exact h
  | inr q => cases w <;> exact h
theorem ck_rst_ok {β : Nat → Int} {nx s : Nat} {lo hi : Int} (hs : lo ≤ β s ∧ β s ≤ hi) : ∀ {vs : List ck_V} {ws : List Value}, ck_st β nx vs ws → ck_st β nx (vs.map (ck_rv s lo hi)) ws
  | [], [], _ => trivial
  | _ :: _, _ :: _, h => ⟨ck_rv_ok hs h.1, ck_rst_ok hs h.2⟩
  | [], _ :: _, h => h.elim
  | _ :: _, [], h => h.elim
/-- a state narrowed by what an int is known to be -/
theorem ck_rf_ok {SP : List ck_C} {β : Nat → Int} {A : ck_S} {lv : ab_L} {st : List Value} {h : ab_H} {v : ck_I} {x : Int32} {lo hi : Int} (hx : ck_i β A.2.2.2 v x) (hl : lo ≤ x.toInt) (hh : x.toInt ≤ hi) (g : ck_g SP β A lv st h) : ck_g SP β (ck_rf v lo hi A) lv st h := by
  obtain ⟨g0, g1, g2, g3, g4, g5⟩ := g
  have hs : lo - v.2.2.2 ≤ β v.2.2.1 ∧ β v.2.2.1 ≤ hi - v.2.2.2 := by
    have := hx.2.2.2
    omega
  refine ⟨g0, g1, fun i w hw => ?_, ck_rst_ok hs g3, fun k w hw => ?_, g5⟩
  · obtain ⟨q, hq, e⟩ := List.mem_map.mp hw
    cases e
    obtain ⟨y, y1, y2⟩ := g2 q.1 q.2 hq
    exact ⟨y, y1, ck_rv_ok hs y2⟩
  · obtain ⟨q, hq, e⟩ := List.mem_map.mp hw
    cases e
    obtain ⟨y, y1, y2⟩ := g4 q.1 q.2 hq
    exact ⟨y, y1, ck_ri_ok hs y2⟩
theorem ck_nl_ok {c : ClassFile.Cond} {x y : ck_I} {a b : Int} (hx : x.1 ≤ a ∧ a ≤ x.2.1) (hy : y.1 ≤ b ∧ b ≤ y.2.1) (h : ab_ci c a b) : (ck_nl c x y).1 ≤ a ∧ a ≤ (ck_nl c x y).2 := by
  cases c <;> dsimp only [ck_nl, ab_ci] at h ⊢
  · omega
  · constructor <;> split <;> omega
  · omega
  · omega
  · omega
  · omega
theorem ck_sw_ok {c : ClassFile.Cond} {a b : Int} (h : ab_ci c a b) : ab_ci (ck_sw c) b a := by
  cases c <;> simp only [ab_ci, ck_sw] at h ⊢ <;> omega
theorem ck_ng_ok {c : ClassFile.Cond} {a b : Int} (h : ¬ ab_ci c a b) : ab_ci (ck_ng c) a b := by
  cases c <;> simp only [ab_ci, ck_ng] at h ⊢ <;> omega
theorem ck_rf_nx {v : ck_I} {lo hi : Int} {A : ck_S} : (ck_rf v lo hi A).2.2.2 = A.2.2.2 := rfl
theorem ck_br_ok {SP : List ck_C} {β : Nat → Int} {A : ck_S} {lv : ab_L} {st : List Value} {h : ab_H} {c : ClassFile.Cond} {x y : ck_I} {a b : Int32} (hx : ck_i β A.2.2.2 x a) (hy : ck_i β A.2.2.2 y b) (hc : ab_ci c a.toInt b.toInt) (g : ck_g SP β A lv st h) : ∃ B, ck_br c x y A = some B ∧ ck_g SP β B lv st h := by
  have p := ck_nl_ok (x := x) (y := y) ⟨hx.2.1, hx.2.2.1⟩ ⟨hy.2.1, hy.2.2.1⟩ hc
  have q := ck_nl_ok (x := y) (y := x) ⟨hy.2.1, hy.2.2.1⟩ ⟨hx.2.1, hx.2.2.1⟩ (ck_sw_ok hc)
  refine ⟨_, if_pos ⟨Int.le_trans p.1 p.2, Int.le_trans q.1 q.2⟩, ?_⟩
  exact ck_rf_ok (x := b) hy q.1 q.2 (ck_rf_ok (x := a) hx p.1 p.2 g)
/-- a new symbol -/
def ck_ext (β : Nat → Int) (n : Nat) (v : Int) : Nat → Int := fun s => if s = n then v else β s
theorem ck_ext_lt {β : Nat → Int} {n : Nat} {v : Int} : ∀ s, s < n → ck_ext β n v s = β s := fun s h => if_neg (Nat.ne_of_lt h)
theorem ck_ext_i {β : Nat → Int} {n : Nat} {x : Int32} {lo hi : Int} (h1 : lo ≤ x.toInt) (h2 : x.toInt ≤ hi) : ck_i (ck_ext β n x.toInt) (n + 1) (lo, hi, n, 0) x := ⟨Nat.lt_succ_self n, h1, h2, by show x.toInt = ck_ext β n x.toInt n + 0; unfold ck_ext; rw [if_pos rfl, Int.add_zero]⟩
theorem ck_fr_ok {SP : List ck_C} {β : Nat → Int} {A : ck_S} {lv : ab_L} {st : List Value} {h : ab_H} {lo hi : Int} {x : Int32} (h1 : lo ≤ x.toInt) (h2 : x.toInt ≤ hi) (g : ck_g SP β A lv st h) : ∃ β', ck_g SP β' (ck_fr lo hi A) lv (.int x :: st) h := by
  obtain ⟨g0, g1, g2, g3, g4, g5⟩ := g
  refine ⟨ck_ext β A.2.2.2 x.toInt, (ck_ext_lt 0 g1).trans g0, Nat.succ_pos _, fun i w hw => ?_, ⟨ck_ext_i h1 h2, ck_st_up (Nat.le_succ _) ck_ext_lt g3⟩, fun k w hw => ?_, g5⟩
  · obtain ⟨y, y1, y2⟩ := g2 i w hw
    exact ⟨y, y1, ck_v_up (Nat.le_succ _) ck_ext_lt y2⟩
  · obtain ⟨y, y1, y2⟩ := g4 k w hw
    exact ⟨y, y1, ck_i_up (Nat.le_succ _) ck_ext_lt y2⟩
theorem ck_kc_ok {β : Nat → Int} {nx : Nat} {x : Int32} (h0 : β 0 = 0) (hn : 0 < nx) : ck_v β nx (ck_kc x.toInt) (.int x) := ⟨hn, Int.le_refl _, Int.le_refl _, by show x.toInt = β 0 + x.toInt; rw [h0, Int.zero_add]⟩
theorem ck_pu_ok {SP : List ck_C} {β : Nat → Int} {A : ck_S} {lv : ab_L} {st : List Value} {h : ab_H} {v : ck_V} {w : Value} (hv : ck_v β A.2.2.2 v w) (g : ck_g SP β A lv st h) : ck_g SP β (ck_pu v A) lv (w :: st) h := ⟨g.1, g.2.1, g.2.2.1, ⟨hv, g.2.2.2.1⟩, g.2.2.2.2⟩
theorem ck_sk_ok {SP : List ck_C} {β : Nat → Int} {A : ck_S} {lv : ab_L} {st st' : List Value} {h : ab_H} {vs : List ck_V} (hv : ck_st β A.2.2.2 vs st') (g : ck_g SP β A lv st h) : ck_g SP β (ck_sk vs A) lv st' h := ⟨g.1, g.2.1, g.2.2.1, hv, g.2.2.2.2⟩
theorem ck_lk_mem {i : Nat} {v : ck_V} : ∀ {l : List (Nat × ck_V)}, ck_lk i l = some v → (i, v) ∈ l
  | [], h => by cases h
  | q :: r, h => by
    unfold ck_lk at h
    split at h
    · rename_i e
      cases h
      rw [← e]
      exact List.mem_cons_self
    · exact List.mem_cons_of_mem _ (ck_lk_mem h)
theorem ck_lf_mem {i : Nat} {v : ck_I} : ∀ {l : List (Nat × ck_I)}, ck_lf i l = some v → (i, v) ∈ l
  | [], h => by cases h
  | q :: r, h => by
    unfold ck_lf at h
    split at h
    · rename_i e
      cases h
      rw [← e]
      exact List.mem_cons_self
    · exact List.mem_cons_of_mem _ (ck_lf_mem h)
theorem ck_lk_filter {p : Nat × Value → Bool} {j : Nat} {w : Value} : ∀ {lv : ab_L}, ab_lk lv j = some w → p (j, w) = true → ab_lk (lv.filter p) j = some w
  | [], h, _ => by cases h
  | q :: r, h, hp => by
    unfold ab_lk at h
    split at h
    · rename_i e
      cases h
      have hq : p q = true := by rw [← hp, ← e]
      rw [List.filter_cons_of_pos hq]
      unfold ab_lk
      rw [if_pos e]
    · rename_i e
      by_cases hq : p q = true
      · rw [List.filter_cons_of_pos hq]
        unfold ab_lk
        rw [if_neg e]
        exact ck_lk_filter h hp
      · rw [List.filter_cons_of_neg hq]
        exact ck_lk_filter h hp
theorem ck_two_cat {β : Nat → Int} {nx : Nat} {v : ck_V} {w : Value} (h : ck_v β nx v w) : (w.category == 2) = ck_two v := by
  cases v with
  | inl i => cases w with
    | int x => rfl
    | _ => exact h.elim
  | inr q => cases w with
    | long x =>
      have e : q.1 = 0 := h
      show true = (q.1 == 0)
      rw [e]; rfl
    | ref a =>
      have e : q.1 = 1 := h.1
      show false = (q.1 == 0)
      rw [e]; rfl
    | retAddr k =>
      have e : q.1 = 2 := h.1
      show false = (q.1 == 0)
      rw [e]; rfl
    | _ => exact h.elim
/-- what a run keeps: as many cells and slots, and whatever is not in Mo -/
def ck_fm (Mo : List Nat) (h h' : ab_H) : Prop := h'.1 = h.1 ∧ h'.2.1 = h.2.1 ∧ (∀ k, k ∉ Mo → ck_fd h' k = ck_fd h k) ∧ ∀ a, (∀ k, k < 64 → ck_key a k ∉ Mo) → h'.2.2 a = h.2.2 a
theorem ck_fm.rf {Mo : List Nat} {h : ab_H} : ck_fm Mo h h := ⟨rfl, rfl, fun _ _ => rfl, fun _ _ => rfl⟩
theorem ck_fm.tr {Mo : List Nat} {h h' h2 : ab_H} (p : ck_fm Mo h h') (q : ck_fm Mo h' h2) : ck_fm Mo h h2 := ⟨q.1.trans p.1, q.2.1.trans p.2.1, fun k hk => (q.2.2.1 k hk).trans (p.2.2.1 k hk), fun a ha => (q.2.2.2 a ha).trans (p.2.2.2 a ha)⟩
theorem ck_fm.up {Mo Mo' : List Nat} {h h' : ab_H} (hm : ∀ k, k ∈ Mo → k ∈ Mo') (p : ck_fm Mo h h') : ck_fm Mo' h h' := ⟨p.1, p.2.1, fun k hk => p.2.2.1 k (fun q => hk (hm k q)), fun a ha => p.2.2.2 a (fun k hk q => ha k hk (hm _ q))⟩
/-- a step that the checker foresaw -/
def ck_fs (SP : List ck_C) (Mo : List Nat) (l : List (Nat × ck_S)) (h : ab_H) (r : Option ab_S) : Prop := ∃ pc' lv' st' h' A' β', r = some (pc', lv', st', h') ∧ (pc', A') ∈ l ∧ ck_g SP β' A' lv' st' h' ∧ ck_fm Mo h h'
section CKS
variable {SP : List ck_C} {Mo : List Nat} {β : Nat → Int} {A : ck_S} {lv : ab_L} {st : List Value} {h : ab_H} {l : List (Nat × ck_S)} {pc n i nL : Nat}
theorem ck_s1_ok {v : ck_V} {w : Value} {r : List ck_V} {q : List Value} (hv : ck_v β A.2.2.2 v w) (hr : ck_st β A.2.2.2 r q) (g : ck_g SP β A lv st h) : ck_g SP β (ck_s1 i v A.1, r, A.2.2) (ab_s1 i w lv) q h := by
  refine ⟨g.1, g.2.1, fun j u hu => ?_, hr, g.2.2.2.2⟩
  rcases List.mem_cons.mp hu with e | hu
  · cases e
    refine ⟨w, ?_, hv⟩
    unfold ab_s1 ab_lk
    exact if_pos rfl
  · obtain ⟨hm, hp⟩ := List.mem_filter.mp hu
    obtain ⟨x, hx, hxv⟩ := g.2.2.1 j u hm
    refine ⟨x, ?_, hxv⟩
    dsimp only at hp
    have hji : ¬ i = j := by
      intro e
      subst e
      simp at hp
    unfold ab_s1 ab_lk
    rw [if_neg hji]
    refine ck_lk_filter hx ?_
    dsimp only
    rw [ck_two_cat hxv]
    exact hp
theorem ck_z_ild (g : ck_g SP β A lv st h) (hs : ck_ld 0 i n pc A = some l) : ck_fs SP Mo l h (ab_ild i n pc lv st h) := by
  unfold ck_ld at hs
  split at hs
  · rename_i v hv
    cases hs
    obtain ⟨w, hw, hvw⟩ := g.2.2.1 i _ (ck_lk_mem hv)
    cases w with
    | int x =>
      refine ⟨pc + n, lv, .int x :: st, h, _, β, ?_, List.mem_singleton.mpr rfl, ck_pu_ok hvw g, ck_fm.rf⟩
      unfold ab_ild
      rw [hw]
    | _ => exact hvw.elim
  · split at hs
    · rename_i hk
      rcases hk with hk | hk <;> cases hk.1
    · cases hs
  · cases hs
theorem ck_z_ist (g : ck_g SP β A lv st h) (hs : ck_sto nL 0 i n pc A = some l) : ck_fs SP Mo l h (ab_ist nL i n pc lv st h) := by
  unfold ck_sto at hs
  split at hs
  · rename_i v r hst
    split at hs
    · rename_i hk
      cases hs
      have g3 := g.2.2.2.1
      rw [hst] at g3
      cases st with
      | nil => exact g3.elim
      | cons w q =>
        cases w with
        | int x =>
          refine ⟨pc + n, ab_s1 i (.int x) lv, q, h, _, β, ?_, List.mem_singleton.mpr rfl, ck_s1_ok g3.1 g3.2 g, ck_fm.rf⟩
          unfold ab_ist
          exact if_pos hk.2
        | _ => exact g3.1.elim
    · cases hs
  · split at hs
    · rename_i hk
      cases hk.1
    · split at hs
      · rename_i hk
        cases hk.1
      · cases hs
  · cases hs
end CKS
