/-! ===== the wider checker is sound: states, pushes, new numbers ===== -/
def sx_ag (n : Nat) (β β' : Nat → Int) : Prop := ∀ s, s < n → β' s = β s
theorem sx_ag.rf {n : Nat} {β : Nat → Int} : sx_ag n β β := fun _ _ => rfl
def sx_ok (SP : List sx_C) (z L : Nat) (xs : Nat → Int32) (A : sx_S) (β : Nat → Int) (lv : ab_L) (st : List Value) (h : ab_H) : Prop := ∀ β', sx_ag (sx_nx A) β β' → sx_at SP z L xs A β' lv st h
theorem sx_fr.rf {Mo : List Nat} {h : ab_H} : sx_fr Mo h h := fun _ _ => rfl
section SX4
variable {SP : List sx_C} {z L : Nat} {xs : Nat → Int32} {Mo : List Nat} {β : Nat → Int} {A B : sx_S} {lv lv' : ab_L} {st st' : List Value} {h h' : ab_H} {l : List (Nat × sx_S)} {pc p n i nL : Nat}
theorem sx_ok.at (g : sx_ok SP z L xs A β lv st h) : sx_at SP z L xs A β lv st h := g β sx_ag.rf
theorem sx_at.nf (g : sx_at SP z L xs A β lv st h) : sx_oN A.2.2.2.2.1 β ∧ sx_oF A.2.2.2.2.2.1 β := ⟨g.2.2.2.2.1, g.2.2.2.2.2.1⟩
/-- a state of the list follows -/
def sx_to (SP : List sx_C) (z L : Nat) (xs : Nat → Int32) (Mo : List Nat) (n : Nat) (β : Nat → Int) (h : ab_H) (l : List (Nat × sx_S)) (r : Option ab_S) : Prop := ∃ pc' lv' st' h' B β', r = some (pc', lv', st', h') ∧ (pc', B) ∈ l ∧ n ≤ sx_nx B ∧ sx_ag n β β' ∧ sx_ok SP z L xs B β' lv' st' h' ∧ sx_fr Mo h h'
/-- the same, where only the stack's top is new -/
def sx_t1 (SP : List sx_C) (z L : Nat) (xs : Nat → Int32) (A : sx_S) (β : Nat → Int) (l : List (Nat × sx_S)) (p : Nat) (lv : ab_L) (st : List Value) (h : ab_H) : Prop := ∃ B β', (p, B) ∈ l ∧ sx_nx A ≤ sx_nx B ∧ sx_ag (sx_nx A) β β' ∧ sx_ok SP z L xs B β' lv st h
theorem sx_t1.to {r : Option ab_S} (t : sx_t1 SP z L xs A β l p lv' st' h) (hr : r = some (p, lv', st', h)) : sx_to SP z L xs Mo (sx_nx A) β h l r := by
  obtain ⟨B, β', h1, h2, h3, h4⟩ := t
  exact ⟨p, lv', st', h, B, β', hr, h1, h2, h3, h4, sx_fr.rf⟩
/-- nothing new -/
theorem sx_ok.mv (g : sx_ok SP z L xs A β lv st h) (hn : sx_nx B = sx_nx A) (k : ∀ β', sx_at SP z L xs A β' lv st h → sx_at SP z L xs B β' lv' st' h') : sx_ok SP z L xs B β lv' st' h' := fun β' ha => k β' (g β' (by rw [← hn]; exact ha))
theorem sx_t1.same (g : sx_ok SP z L xs A β lv st h) (hl : l = [(p, B)]) (hn : sx_nx B = sx_nx A) (k : ∀ β', sx_at SP z L xs A β' lv st h → sx_at SP z L xs B β' lv' st' h) : sx_t1 SP z L xs A β l p lv' st' h :=
  ⟨B, β, by rw [hl]; exact List.mem_singleton.mpr rfl, by rw [hn]; exact Nat.le_refl _, sx_ag.rf, g.mv hn k⟩
def sx_bu (β : Nat → Int) (n : Nat) (v : Int) : Nat → Int := fun s => if s = n then v else β s
theorem sx_bu_ag {v : Int} : sx_ag n β (sx_bu β n v) := fun s hs => by
  unfold sx_bu
  rw [if_neg (by omega)]
/-- one new number, v -/
theorem sx_ok.nw (g : sx_ok SP z L xs A β lv st h) (v : Int) (hn : sx_nx B = sx_nx A + 1) (k : ∀ β', sx_at SP z L xs A β' lv st h → β' (sx_nx A) = v → sx_at SP z L xs B β' lv' st' h') : sx_ok SP z L xs B (sx_bu β (sx_nx A) v) lv' st' h' := fun β' ha => by
  refine k β' (g β' (fun s hs => ?_)) ?_
  · rw [ha s (by omega)]
    exact sx_bu_ag s hs
  · rw [ha (sx_nx A) (by omega)]
    unfold sx_bu
    rw [if_pos rfl]
theorem sx_t1.fresh (g : sx_ok SP z L xs A β lv st h) (v : Int) (hn : sx_nx B = sx_nx A + 1) (hl : (p, B) ∈ l) (k : ∀ β', sx_at SP z L xs A β' lv st h → β' (sx_nx A) = v → sx_at SP z L xs B β' lv' st' h) : sx_t1 SP z L xs A β l p lv' st' h :=
  ⟨B, _, hl, by omega, sx_bu_ag, g.nw v hn k⟩
theorem sx_at.push {v : sx_V} {w : Value} (g : sx_at SP z L xs A β lv st h) (hv : sx_v β v w) : sx_at SP z L xs (sx_p v A) β lv (w :: st) h := ⟨g.1, ⟨hv, g.2.1⟩, g.2.2⟩
theorem sx_at.stk {r : List sx_V} {q : List Value} (g : sx_at SP z L xs A β lv st h) (hq : sx_st β r q) : sx_at SP z L xs (sx_k r A) β lv q h := ⟨g.1, hq, g.2.2⟩
theorem sx_at.new {a b : Int} (g : sx_at SP z L xs A β lv st h) (h1 : a ≤ β (sx_nx A)) (h2 : β (sx_nx A) ≤ b) : sx_at SP z L xs (sx_new a b A) β lv st h := by
  refine ⟨g.1, g.2.1, g.2.2.1, g.2.2.2.1, fun q hq => ?_, g.2.2.2.2.2.1, g.2.2.2.2.2.2⟩
  rcases List.mem_cons.mp hq with rfl | hq
  · exact ⟨h1, h2⟩
  · exact g.2.2.2.2.1 q hq
theorem sx_at.fact {es : List sx_E} (g : sx_at SP z L xs A β lv st h) (he : ∀ e ∈ es, sx_ev β e ≤ 0) : sx_at SP z L xs (sx_fa es A) β lv st h := by
  refine ⟨g.1, g.2.1, g.2.2.1, g.2.2.2.1, g.2.2.2.2.1, fun f hf => ?_, g.2.2.2.2.2.2⟩
  rcases List.mem_append.mp hf with hf | hf
  · exact g.2.2.2.2.2.1 f hf
  · exact he f hf
/-- the stack's first values -/
theorem sx_ok.pop {r : List sx_V} {q : List Value} (g : sx_ok SP z L xs A β lv st h) (hq : ∀ β', sx_at SP z L xs A β' lv st h → sx_st β' r q) : sx_ok SP z L xs (sx_k r A) β lv q h := g.mv rfl (fun β' g' => g'.stk (hq β' g'))
/-- x is e, whatever the later symbols are -/
def sx_xi (A : sx_S) (β : Nat → Int) (e : sx_E) (x : Int) : Prop := ∀ β', sx_ag (sx_nx A) β β' → x = sx_ev β' e
/-- a value of kind kd that is the number x -/
def sx_vk (kd : Nat) (w : Value) (x : Int) : Prop := (∃ a : Int32, kd = 0 ∧ w = .int a ∧ a.toInt = x) ∨ (∃ a : Int64, kd = 1 ∧ w = .long a ∧ a.toInt = x)
theorem sx_vk.v {kd : Nat} {w : Value} {x : Int} {e : sx_E} (hk : sx_vk kd w x) (he : x = sx_ev β e) : sx_v β (.inl (kd, e)) w := by
  rcases hk with ⟨a, rfl, rfl, ha⟩ | ⟨a, rfl, rfl, ha⟩
  · exact ha.trans he
  · exact ha.trans he
theorem sx_vk.bd {kd : Nat} {w : Value} {x : Int} (hk : sx_vk kd w x) : sx_mn kd ≤ x ∧ x ≤ sx_mx kd := by
  rcases hk with ⟨a, rfl, -, ha⟩ | ⟨a, rfl, -, ha⟩
  · have h1 := a.le_toInt
    have h2 := a.toInt_lt
    simp only [sx_mn, sx_mx, if_pos]
    omega
  · have h1 := a.le_toInt
    have h2 := a.toInt_lt
    simp only [sx_mn, sx_mx]
    rw [if_neg (by decide), if_neg (by decide)]
    omega
theorem sx_fp1_ok {kd : Nat} {w : Value} {x : Int} {b : Int × Int} (hk : sx_vk kd w x) (h1 : b.1 ≤ x) (h2 : x ≤ b.2) (g : sx_ok SP z L xs A β lv st h) (hs : sx_fp1 kd b p A = some l) : sx_t1 SP z L xs A β l p lv (w :: st) h := by
  unfold sx_fp1 at hs
  split at hs
  · rename_i he
    cases hs
    exact sx_t1.same g rfl rfl (fun β' g' => g'.push (hk.v (by rw [sx_ev_K]; omega)))
  · cases hs
    exact sx_t1.fresh g x rfl (List.mem_singleton.mpr rfl) (fun β' g' hv => (g'.new (by rw [hv]; exact h1) (by rw [hv]; exact h2)).push (hk.v (by rw [sx_ev_Y, hv])))
theorem sx_full_ok {kd : Nat} {w : Value} {x : Int} (hk : sx_vk kd w x) (g : sx_ok SP z L xs A β lv st h) (hs : sx_full kd p A = some l) : sx_t1 SP z L xs A β l p lv (w :: st) h := sx_fp1_ok hk hk.bd.1 hk.bd.2 g hs
theorem sx_fp_ok {kd : Nat} {w : Value} {x a b : Int} (hk : sx_vk kd w x) (h1 : a ≤ x) (h2 : x ≤ b) (g : sx_ok SP z L xs A β lv st h) (hs : sx_fp kd a b p A = some l) : sx_t1 SP z L xs A β l p lv (w :: st) h := by
  unfold sx_fp sx_cl at hs
  split at hs
  · exact sx_fp1_ok hk h1 h2 g hs
  · exact sx_fp1_ok hk hk.bd.1 hk.bd.2 g hs
theorem sx_li_ok {kd : Nat} {w : Value} {x : Int} {e : sx_E} (hk : sx_vk kd w x) (he : ∀ β', sx_ag (sx_nx A) β β' → sx_mn kd ≤ sx_ev β' e → sx_ev β' e ≤ sx_mx kd → x = sx_ev β' e) (g : sx_ok SP z L xs A β lv st h) (hs : sx_li kd e p A = some l) : sx_t1 SP z L xs A β l p lv (w :: st) h := by
  unfold sx_li at hs
  split at hs
  · rename_i hi
    cases hs
    refine ⟨_, β, List.mem_singleton.mpr rfl, Nat.le_refl _, sx_ag.rf, fun β' ha => ?_⟩
    have g' := g β' ha
    have hb := sx_in_ok g'.nf hi
    exact g'.push (hk.v (he β' ha hb.1 hb.2))
  · exact sx_full_ok hk g hs
theorem sx_bd_ok {e : sx_E} {b : Int × Int} (g : sx_oN A.2.2.2.2.1 β ∧ sx_oF A.2.2.2.2.2.1 β) (hb : sx_bd A e = some b) : b.1 ≤ sx_ev β e ∧ sx_ev β e ≤ b.2 := by
  unfold sx_bd at hb
  split at hb
  · rename_i l u h1 h2
    cases hb
    exact ⟨sx_lo_ok g h1, sx_up_ok g h2⟩
  · cases hb
end SX4
