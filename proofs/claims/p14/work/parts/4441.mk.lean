/-! ===== covers: what can be made of so many cubes and letters (no machine here) ===== -/
def mk_bt (x : Int64) (i : Nat) : Bool := x.toBitVec.getLsbD i
theorem mk_or (x y : Int64) (i : Nat) : mk_bt (x ||| y) i = (mk_bt x i || mk_bt y i) := by
  unfold mk_bt
  rw [Int64.toBitVec_or, BitVec.getLsbD_or]
theorem mk_and (x y : Int64) (i : Nat) : mk_bt (x &&& y) i = (mk_bt x i && mk_bt y i) := by
  unfold mk_bt
  rw [Int64.toBitVec_and, BitVec.getLsbD_and]
theorem mk_not (x : Int64) {i : Nat} (hi : i < 64) : mk_bt (x ^^^ -1) i = !(mk_bt x i) := by
  unfold mk_bt
  rw [Int64.toBitVec_xor, BitVec.getLsbD_xor, show (-1 : Int64).toBitVec = BitVec.allOnes 64 by decide, BitVec.getLsbD_allOnes, decide_eq_true hi, Bool.xor_true]
theorem mk_zero {i : Nat} : mk_bt 0 i = false := by
  unfold mk_bt
  show (0#64).getLsbD i = false
  exact BitVec.getLsbD_zero
theorem mk_eq0 {x : Int64} : x = 0 ↔ ∀ i, i < 64 → mk_bt x i = false := by
  constructor
  · intro h i _
    rw [h]
    exact mk_zero
  · intro h
    apply Int64.toBitVec_inj.mp
    apply BitVec.eq_of_getLsbD_eq
    intro i hi
    show x.toBitVec.getLsbD i = (0#64).getLsbD i
    rw [BitVec.getLsbD_zero]
    exact h i hi
/-- all that is asked is had -/
def mk_all (on has : Int64) : Prop := ∀ i, i < 64 → mk_bt on i = true → mk_bt has i = true
theorem mk_lacks {on has : Int64} : on &&& (has ^^^ -1) = 0 ↔ mk_all on has := by
  rw [mk_eq0]
  constructor
  · intro h i hi ho
    have h1 := h i hi
    rw [mk_and, mk_not _ hi, ho, Bool.true_and] at h1
    simpa using h1
  · intro h i hi
    rw [mk_and, mk_not _ hi]
    cases ho : mk_bt on i with
    | false => rfl
    | true => rw [h i hi ho]; rfl
section MK
variable {n : Nat} {C : Nat → Int64} {G : Nat → Int} {on : Int64}
def mk_can (n : Nat) (C : Nat → Int64) (G : Nat → Int) (on : Int64) : Nat → Int64 → Int → Prop
  | 0, has, _ => mk_all on has
  | m + 1, has, left => mk_all on has ∨ ∃ k, k < n ∧ G k ≤ left ∧ mk_can n C G on m (has ||| C k) (left - G k)
theorem mk_can_of_all {m : Nat} {has : Int64} {left : Int} (h : mk_all on has) : mk_can n C G on m has left := by
  cases m with
  | zero => exact h
  | succ m => exact Or.inl h
theorem mk_sub {a b : Int64} (h : ∀ i, i < 64 → mk_bt a i = true → mk_bt b i = true) : ∀ {m : Nat} {left left' : Int}, left ≤ left' → (∀ c : Int64, True) → mk_can n C G on m a left → mk_can n C G on m b left' := by
  intro m
  induction m generalizing a b with
  | zero => intro left left' _ _ hc i hi ho; exact h i hi (hc i hi ho)
  | succ m ih =>
    intro left left' hl t hc
    rcases hc with hc | ⟨k, k1, k2, k3⟩
    · exact Or.inl (fun i hi ho => h i hi (hc i hi ho))
    · refine Or.inr ⟨k, k1, by omega, ih (fun i hi hb => ?_) (by omega) t k3⟩
      rw [mk_or] at hb ⊢
      rw [Bool.or_eq_true] at hb ⊢
      rcases hb with hb | hb
      · exact Or.inl (h i hi hb)
      · exact Or.inr hb
theorem mk_more {m m' : Nat} {a : Int64} {left : Int} (hm : m ≤ m') (h : mk_can n C G on m a left) : mk_can n C G on m' a left := by
  induction m' generalizing m a left with
  | zero =>
    have : m = 0 := by omega
    subst this
    exact h
  | succ m' ih =>
    cases m with
    | zero => exact Or.inl h
    | succ m =>
      rcases h with h | ⟨k, k1, k2, k3⟩
      · exact Or.inl h
      · exact Or.inr ⟨k, k1, k2, ih (by omega) k3⟩
/-- a cube that has the level v comes first -/
theorem mk_pick (hG : ∀ k, 0 ≤ G k) {v : Nat} (hv : v < 64) (ho : mk_bt on v = true) : ∀ {m : Nat} {has : Int64} {left : Int}, mk_bt has v = false → mk_can n C G on m has left → ∃ m', m = m' + 1 ∧ ∃ k, k < n ∧ mk_bt (C k) v = true ∧ G k ≤ left ∧ mk_can n C G on m' (has ||| C k) (left - G k) := by
  intro m
  induction m with
  | zero =>
    intro has left hn hc
    rw [hc v hv ho] at hn
    cases hn
  | succ m ih =>
    intro has left hn hc
    rcases hc with hc | ⟨k0, a1, a2, a3⟩
    · rw [hc v hv ho] at hn
      cases hn
    · cases hk : mk_bt (C k0) v with
      | true => exact ⟨m, rfl, k0, a1, hk, a2, a3⟩
      | false =>
        obtain ⟨m', e, k, b1, b2, b3, b4⟩ := ih (by rw [mk_or, hn, hk]; rfl) a3
        subst e
        have g0 := hG k0
        refine ⟨m' + 1, rfl, k, b1, b2, by omega, Or.inr ⟨k0, a1, by omega, ?_⟩⟩
        refine mk_sub (fun i hi hb => ?_) (by omega) (fun _ => trivial) b4
        rw [mk_or, mk_or] at hb ⊢
        rw [Bool.or_assoc] at hb ⊢
        rw [Bool.or_comm (mk_bt (C k) i)]
        exact hb
/-- whatever makes all that lacks needs a cubes and g letters -/
def mk_lb (n : Nat) (C : Nat → Int64) (G : Nat → Int) (on free : Int64) (a : Nat) (g : Int) : Prop := ∀ (m : Nat) (has : Int64) (left : Int), 0 ≤ left → (∀ i, i < 64 → mk_bt free i = true → mk_bt on i = true ∧ mk_bt has i = false) → mk_can n C G on m has left → a ≤ m ∧ g ≤ left
theorem mk_lb0 {free : Int64} : mk_lb n C G on free 0 0 := fun m has left hl _ _ => ⟨Nat.zero_le _, hl⟩
theorem mk_lb_step (hG : ∀ k, 0 ≤ G k) {free near : Int64} {a v : Nat} {g few : Int} (hv : v < 64) (hf : mk_bt free v = true) (h1 : ∀ k, k < n → mk_bt (C k) v = true → (few ≤ G k ∧ ∀ i, i < 64 → mk_bt (C k) i = true → mk_bt near i = true)) (h2 : mk_lb n C G on (free &&& (near ^^^ -1)) a g) : mk_lb n C G on free (a + 1) (g + few) := by
  intro m has left hl hfr hc
  obtain ⟨o1, o2⟩ := hfr v hv hf
  obtain ⟨m', e, k, k1, k2, k3, k4⟩ := mk_pick hG hv o1 o2 hc
  obtain ⟨f1, f2⟩ := h1 k k1 k2
  have hq := h2 m' (has ||| C k) (left - G k) (by omega) (fun i hi hb => by
    rw [mk_and, mk_not _ hi, Bool.and_eq_true] at hb
    obtain ⟨p1, p2⟩ := hfr i hi hb.1
    refine ⟨p1, ?_⟩
    rw [mk_or, p2, Bool.false_or]
    cases hk : mk_bt (C k) i with
    | false => rfl
    | true =>
      have := f2 i hi hk
      rw [this] at hb
      cases hb.2) k4
  omega
/-- how many levels lack -/
def mk_cnt (on has : Int64) : Nat → Nat
  | 0 => 0
  | j + 1 => (if mk_bt on j = true ∧ mk_bt has j = false then 1 else 0) + mk_cnt on has j
theorem mk_cnt_le (on has : Int64) : ∀ j, mk_cnt on has j ≤ j
  | 0 => Nat.le_refl _
  | j + 1 => by
    have := mk_cnt_le on has j
    unfold mk_cnt
    split <;> omega
theorem mk_cnt_0 {has : Int64} : ∀ {j : Nat}, mk_cnt on has j = 0 → ∀ i, i < j → mk_bt on i = true → mk_bt has i = true
  | 0, _, i, hi, _ => by omega
  | j + 1, h, i, hi, ho => by
    unfold mk_cnt at h
    by_cases e : i = j
    · subst e
      cases hb : mk_bt has i with
      | true => rfl
      | false => rw [if_pos ⟨ho, hb⟩] at h; omega
    · exact mk_cnt_0 (j := j) (by omega) i (by omega) ho
theorem mk_cnt_or {has c : Int64} : ∀ (j : Nat), mk_cnt on (has ||| c) j ≤ mk_cnt on has j ∧ ∀ i, i < j → mk_bt on i = true → mk_bt has i = false → mk_bt c i = true → mk_cnt on (has ||| c) j < mk_cnt on has j
  | 0 => ⟨Nat.le_refl _, fun i hi => by omega⟩
  | j + 1 => by
    obtain ⟨h1, h2⟩ := mk_cnt_or (has := has) (c := c) j
    unfold mk_cnt
    have hor := mk_or has c j
    refine ⟨?_, fun i hi ho hh hc => ?_⟩
    · by_cases q : mk_bt on j = true ∧ mk_bt (has ||| c) j = false
      · have : mk_bt has j = false := by
          have := q.2
          rw [hor, Bool.or_eq_false_iff] at this
          exact this.1
        rw [if_pos q, if_pos ⟨q.1, this⟩]
        omega
      · rw [if_neg q]
        omega
    · by_cases e : i = j
      · subst e
        rw [if_neg (fun q => by rw [hor, hc, Bool.or_true] at q; cases q.2), if_pos ⟨ho, hh⟩]
        omega
      · have h3 := h2 i (by omega) ho hh hc
        by_cases q : mk_bt on j = true ∧ mk_bt (has ||| c) j = false
        · have : mk_bt has j = false := by
            have := q.2
            rw [hor, Bool.or_eq_false_iff] at this
            exact this.1
          rw [if_pos q, if_pos ⟨q.1, this⟩]
          omega
        · rw [if_neg q]
          omega
theorem mk_ex {has : Int64} : ∀ {j : Nat}, mk_cnt on has j ≠ 0 → ∃ i, i < j ∧ mk_bt on i = true ∧ mk_bt has i = false
  | 0, h => absurd rfl h
  | j + 1, h => by
    by_cases q : mk_bt on j = true ∧ mk_bt has j = false
    · exact ⟨j, by omega, q.1, q.2⟩
    · unfold mk_cnt at h
      rw [if_neg q] at h
      obtain ⟨i, h1, h2⟩ := mk_ex (has := has) (j := j) (fun e => h (by rw [e]))
      exact ⟨i, by omega, h2⟩
/-- where each level has a cube, enough cubes make all -/
theorem mk_exists (hG : ∀ k, 0 ≤ G k ∧ G k ≤ 6) (hc : ∀ i, i < 64 → mk_bt on i = true → ∃ k, k < n ∧ mk_bt (C k) i = true) : ∀ (m : Nat) (has : Int64), mk_cnt on has 64 ≤ m → mk_can n C G on m has (6 * m) := by
  intro m
  induction m with
  | zero => intro has h; exact mk_cnt_0 (by omega)
  | succ m ih =>
    intro has h
    by_cases h0 : mk_cnt on has 64 = 0
    · exact Or.inl (mk_cnt_0 h0)
    · obtain ⟨i, i1, i2, i3⟩ := mk_ex h0
      obtain ⟨k, k1, k2⟩ := hc i i1 i2
      have h3 := (mk_cnt_or (on := on) (has := has) (c := C k) 64).2 i i1 i2 i3 k2
      have g := hG k
      refine Or.inr ⟨k, k1, by omega, ?_⟩
      exact mk_sub (fun _ _ hb => hb) (by omega) (fun _ => trivial) (ih (has ||| C k) (by omega))
theorem mk_six (hG : ∀ k, 0 ≤ G k ∧ G k ≤ 6) : ∀ {m : Nat} {has : Int64} {left : Int}, mk_can n C G on m has left → mk_can n C G on m has (6 * m) := by
  intro m
  induction m with
  | zero => intro has left h; exact h
  | succ m ih =>
    intro has left h
    rcases h with h | ⟨k, k1, k2, k3⟩
    · exact Or.inl h
    · have g := hG k
      exact Or.inr ⟨k, k1, by omega, mk_sub (fun _ _ hb => hb) (by omega) (fun _ => trivial) (ih k3)⟩
end MK
