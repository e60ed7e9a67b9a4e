/-! ===== levels: the class tells them by ways ===== -/
/-- what the class wants of the rises and falls: the wire's level at first -/
def hib (W R lv : Nat → Int32) (i k : Nat) : Bool := !decide (R k = 1) ^^ b32 (lv i) (W k).toNatClampNeg
def KB (bh W R lv : Nat → Int32) (n E : Nat) (kn bg : Int32) (s e : Nat) : Prop := (∀ i k t, ED bh n E i k t → dn s e i k → lv i ^^^ ((1 : Int32) <<< (W k &&& 31)) = lv t) ∧ (∀ w, w < 32 → (b32 kn w = true ↔ ∃ i k t, ED bh n E i k t ∧ dn s e i k ∧ (W k).toNatClampNeg = w)) ∧ (∀ i k t, ED bh n E i k t → dn s e i k → b32 bg (W k).toNatClampNeg = hib W R lv i k) ∧ ∀ w, w < 32 → b32 bg w = true → ∃ i k t, ED bh n E i k t ∧ dn s e i k ∧ (W k).toNatClampNeg = w
/-- why there are none -/
def KF (bh W R lv : Nat → Int32) (n E : Nat) : Prop := (∃ i k t, ED bh n E i k t ∧ lv i ^^^ ((1 : Int32) <<< (W k &&& 31)) ≠ lv t) ∨ ∃ i k t i' k' t', ED bh n E i k t ∧ ED bh n E i' k' t' ∧ W k = W k' ∧ hib W R lv i k ≠ hib W R lv i' k'
/-- what the class's net and states give the telling -/
def KG (x a : Nat) (c : dc_M) (bh : Nat → Int32) (n E : Nat) : Prop := (c.1 x 0).toInt = n ∧ n ≤ 200 ∧ (c.1 a 1).toInt = E ∧ E ≤ 16 ∧ (∀ k, k < E → 0 ≤ (c.1 (a + 3) k).toInt ∧ (c.1 (a + 3) k).toInt < 32) ∧ (∀ i k : Nat, i < n → k < E → (b32 (c.1 (x + 2) i) k = true ↔ bh (16 * i + k) ≠ -4)) ∧ ∀ i k : Nat, i < n → k < E → bh (16 * i + k) = -4 ∨ ∃ t, t < n ∧ bh (16 * i + k) = Int32.ofNat t ∧ c.1 (x + 5) (16 * i + k) = Int32.ofNat t
theorem ofN_inj {i j : Nat} (hi : i < 1000) (hj : j < 1000) (h : Int32.ofNat i = Int32.ofNat j) : i = j := by
  have := congrArg Int32.toInt h
  rw [mk_i (by omega), mk_i (by omega)] at this
  omega
/-- a bit alone -/
theorem hv_b {W R lv : Nat → Int32} {i k j : Nat} {wI s0 bit : Int32} (hw : 0 ≤ (W k).toInt ∧ (W k).toInt < 32) (hb : bit = (1 : Int32) <<< (W k &&& 31)) (h0 : s0 = if R k = 1 then 0 else bit) (hj : j < 32) : b32 (s0 ^^^ (lv i &&& bit)) j = (decide (j = (W k).toNatClampNeg) && hib W R lv i k) := by
  subst hb h0
  unfold hib
  rw [b32_xor, b32_and, b32_1 hw hj]
  by_cases c : j = (W k).toNatClampNeg
  · rw [decide_eq_true c, ← c, Bool.and_true, Bool.true_and]
    by_cases r : R k = 1
    · rw [if_pos r, b32_0, decide_eq_true r]
      rfl
    · rw [if_neg r, b32_1 hw hj, decide_eq_true c, decide_eq_false r]
      rfl
  · rw [decide_eq_false c, Bool.and_false, Bool.false_and, Bool.xor_false]
    by_cases r : R k = 1
    · rw [if_pos r, b32_0]
    · rw [if_neg r, b32_1 hw hj, decide_eq_false c]
theorem KB.go {bh W R lv : Nat → Int32} {n E s e t : Nat} {kn bg bit hv : Int32} (h : KB bh W R lv n E kn bg s e) (hn : n ≤ 200) (hw : 0 ≤ (W e).toInt ∧ (W e).toInt < 32) (ed : ED bh n E s e t) (hb : bit = (1 : Int32) <<< (W e &&& 31)) (h1 : lv s ^^^ bit = lv t) (hh : ∀ j, j < 32 → b32 hv j = (decide (j = (W e).toNatClampNeg) && hib W R lv s e)) (hok : b32 kn (W e).toNatClampNeg = false ∨ b32 bg (W e).toNatClampNeg = hib W R lv s e) : KB bh W R lv n E (kn ||| bit) (bg ||| hv) s (e + 1) := by
  subst hb
  obtain ⟨A, B, C, D⟩ := h
  have hwc := cl_n hw.1
  have w32 : (W e).toNatClampNeg < 32 := by omega
  have sp : ∀ i k, dn s (e + 1) i k → dn s e i k ∨ (i = s ∧ k = e) := fun i k hd => by unfold dn at hd ⊢; omega
  have up : ∀ i k, dn s e i k → dn s (e + 1) i k := fun i k hd => by unfold dn at hd ⊢; omega
  have me : dn s (e + 1) s e := by unfold dn; omega
  refine ⟨fun i k t' ed' hd => ?_, fun w hw32 => ?_, fun i k t' ed' hd => ?_, fun w hw32 hq => ?_⟩
  · rcases sp i k hd with g | ⟨rfl, rfl⟩
    · exact A i k t' ed' g
    · have : t' = t := ofN_inj (by have := ed'.2.2.1; omega) (by have := ed.2.2.1; omega) (ed'.2.2.2.symm.trans ed.2.2.2)
      rw [this]
      exact h1
  · rw [b32_or, Bool.or_eq_true, B w hw32, b32_1 hw hw32, decide_eq_true_iff]
    constructor
    · rintro (⟨i, k, t', g1, g2, g3⟩ | g)
      · exact ⟨i, k, t', g1, up i k g2, g3⟩
      · exact ⟨s, e, t, ed, me, g.symm⟩
    · rintro ⟨i, k, t', g1, g2, g3⟩
      rcases sp i k g2 with g | ⟨rfl, rfl⟩
      · exact Or.inl ⟨i, k, t', g1, g, g3⟩
      · exact Or.inr g3.symm
  · by_cases cw : (W k).toNatClampNeg = (W e).toNatClampNeg
    · rcases sp i k hd with g | ⟨rfl, rfl⟩
      · have q := C i k t' ed' g
        rcases hok with z | z
        · have := (B (W e).toNatClampNeg w32).mpr ⟨i, k, t', ed', g, cw⟩
          rw [z] at this
          cases this
        · rw [b32_or, q, cw, hh _ w32, decide_eq_true rfl, Bool.true_and]
          rw [cw] at q
          rw [← z, q]
          cases hib W R lv i k <;> rfl
      · rw [b32_or, hh _ w32, decide_eq_true rfl, Bool.true_and]
        rcases hok with z | z
        · cases hq : b32 bg (W k).toNatClampNeg with
          | false => rfl
          | true =>
            have := (B (W k).toNatClampNeg w32).mpr (D (W k).toNatClampNeg w32 hq)
            rw [z] at this
            cases this
        · rw [z]
          cases hib W R lv i k <;> rfl
    · rcases sp i k hd with g | ⟨rfl, rfl⟩
      · have q := C i k t' ed' g
        by_cases k32 : (W k).toNatClampNeg < 32
        · rw [b32_or, hh _ k32, decide_eq_false cw, Bool.false_and, Bool.or_false]
          exact q
        · have z : ∀ v : Int32, b32 v (W k).toNatClampNeg = false := fun v => BitVec.getLsbD_of_ge _ _ (by omega)
          rw [z] at q ⊢
          exact q
      · exact absurd rfl cw
  · rw [b32_or, Bool.or_eq_true, hh w hw32, Bool.and_eq_true, decide_eq_true_iff] at hq
    rcases hq with g | ⟨g, -⟩
    · obtain ⟨i, k, t', g1, g2, g3⟩ := D w hw32 g
      exact ⟨i, k, t', g1, up i k g2, g3⟩
    · exact ⟨s, e, t, ed, me, g.symm⟩
theorem KB.no {bh W R lv : Nat → Int32} {n E s e : Nat} {kn bg : Int32} (h : KB bh W R lv n E kn bg s e) (hb : bh (16 * s + e) = -4) (hn : n ≤ 200) : KB bh W R lv n E kn bg s (e + 1) := by
  obtain ⟨A, B, C, D⟩ := h
  have sp : ∀ i k t, ED bh n E i k t → dn s (e + 1) i k → dn s e i k := fun i k t ed hd => by
    by_cases c : i = s ∧ k = e
    · obtain ⟨rfl, rfl⟩ := c
      have q := ed.2.2.2
      rw [hb] at q
      exact absurd q.symm (ofN4 (by have := ed.2.2.1; omega))
    · unfold dn at hd ⊢; omega
  have up : ∀ i k, dn s e i k → dn s (e + 1) i k := fun i k hd => by unfold dn at hd ⊢; omega
  refine ⟨fun i k t ed hd => A i k t ed (sp i k t ed hd), fun w hw => ?_, fun i k t ed hd => C i k t ed (sp i k t ed hd), fun w hw q => ?_⟩
  · rw [B w hw]
    exact ⟨fun ⟨i, k, t, g1, g2, g3⟩ => ⟨i, k, t, g1, up i k g2, g3⟩, fun ⟨i, k, t, g1, g2, g3⟩ => ⟨i, k, t, g1, sp i k t g1 g2, g3⟩⟩
  · obtain ⟨i, k, t, g1, g2, g3⟩ := D w hw q
    exact ⟨i, k, t, g1, up i k g2, g3⟩
theorem KB.nx {bh W R lv : Nat → Int32} {n E s : Nat} {kn bg : Int32} (h : KB bh W R lv n E kn bg s E) : KB bh W R lv n E kn bg (s + 1) 0 := by
  obtain ⟨A, B, C, D⟩ := h
  have sp : ∀ i k t, ED bh n E i k t → (dn (s + 1) 0 i k ↔ dn s E i k) := fun i k t ed => by have := ed.2.1; unfold dn; omega
  refine ⟨fun i k t ed hd => A i k t ed ((sp i k t ed).mp hd), fun w hw => ?_, fun i k t ed hd => C i k t ed ((sp i k t ed).mp hd), fun w hw q => ?_⟩
  · rw [B w hw]
    exact ⟨fun ⟨i, k, t, g1, g2, g3⟩ => ⟨i, k, t, g1, (sp i k t g1).mpr g2, g3⟩, fun ⟨i, k, t, g1, g2, g3⟩ => ⟨i, k, t, g1, (sp i k t g1).mp g2, g3⟩⟩
  · obtain ⟨i, k, t, g1, g2, g3⟩ := D w hw q
    exact ⟨i, k, t, g1, (sp i k t g1).mpr g2, g3⟩
/-- the events of a state -/
theorem tl_19 {x a : Nat} {c : dc_M} {bh : Nat → Int32} {n E S : Nat} {sI kn bg : Int32} {z : (Int32 × Int32 × Int32) ⊕ (Int32 × dc_M)} (G : KG x a c bh n E) (hs : sI.toInt = S) (hS : S < n) (I : KB bh (c.1 (a + 3)) (c.1 (a + 4)) (c.1 (x + 3)) n E kn bg S 0) (h : d_X7_tellLevels_l19 x a sI kn bg 0 c = some z) : (∃ kn' bg', z = .inl (kn', bg', sI + 1) ∧ KB bh (c.1 (a + 3)) (c.1 (a + 4)) (c.1 (x + 3)) n E kn' bg' (S + 1) 0) ∨ (z = .inr (0, c) ∧ KF bh (c.1 (a + 3)) (c.1 (a + 4)) (c.1 (x + 3)) n E) := by
  obtain ⟨G1, G2, G3, G4, G5, G6, G7⟩ := G
  have hSn : sI.toNatClampNeg = S := by have := cl_n (x := sI) (by omega); omega
  unfold d_X7_tellLevels_l19 at h
  refine dc_lp_inv (f := d_X7_tellLevels_l19s x a sI c) (s := (kn, bg, 0)) (fun p : Int32 × Int32 × Int32 => ∃ e : Nat, p.2.2.toInt = e ∧ e ≤ E ∧ KB bh (c.1 (a + 3)) (c.1 (a + 4)) (c.1 (x + 3)) n E p.1 p.2.1 S e) (fun z => (∃ kn' bg', z = .inl (kn', bg', sI + 1) ∧ KB bh (c.1 (a + 3)) (c.1 (a + 4)) (c.1 (x + 3)) n E kn' bg' (S + 1) 0) ∨ (z = .inr (0, c) ∧ KF bh (c.1 (a + 3)) (c.1 (a + 4)) (c.1 (x + 3)) n E)) (fun p p' hI hs' => ?_) (fun p z hI hs' => ?_) ⟨0, rfl, Nat.zero_le _, I⟩ h
  · obtain ⟨kn, bg, x5⟩ := p
    obtain ⟨e, i5, ie, I⟩ := hI
    have i5 : x5.toInt = e := i5
    have I : KB bh (c.1 (a + 3)) (c.1 (a + 4)) (c.1 (x + 3)) n E kn bg S e := I
    have hs' : d_X7_tellLevels_l19b x a sI kn bg x5 c = some (.inl p') := hs'
    unfold d_X7_tellLevels_l19b at hs'
    have hen : x5.toNatClampNeg = e := by have := cl_n (x := x5) (by omega); omega
    rw [G3, hSn, hen] at hs'
    by_cases c1 : (E : Int) ≤ x5.toInt
    · rw [if_pos c1] at hs'; cases hs'
    · rw [if_neg c1] at hs'
      have he : e < E := by omega
      have p1 : (x5 + 1).toInt = (e + 1 : Nat) := by rw [i1 (by omega) (Int32.le_toInt _)]; omega
      have rb := b32_t (x := c.1 (x + 2) S) (e := x5) ⟨by omega, by omega⟩
      rw [hen] at rb
      by_cases c2 : b32 (c.1 (x + 2) S) e = false
      · rw [if_neg (fun q => q (rb.mpr c2))] at hs'
        cases hs'
        refine ⟨e + 1, p1, he, I.no ?_ G2⟩
        exact Classical.byContradiction (fun q => by
          have := (G6 S e hS he).mpr q
          rw [c2] at this
          cases this)
      · rw [if_pos (fun q => c2 (rb.mp q)), ix_1 hs (by omega) i5 (by omega)] at hs'
        have c2' : b32 (c.1 (x + 2) S) e = true := by cases hq : b32 (c.1 (x + 2) S) e with
          | true => rfl
          | false => exact absurd hq c2
        obtain ⟨t, tn, bt, nt⟩ : ∃ t, t < n ∧ bh (16 * S + e) = Int32.ofNat t ∧ c.1 (x + 5) (16 * S + e) = Int32.ofNat t := by
          rcases G7 S e hS he with q | q
          · exact absurd q ((G6 S e hS he).mp c2')
          · exact q
        have ed : ED bh n E S e t := ⟨hS, he, tn, bt⟩
        have tN : (Int32.ofNat t).toNatClampNeg = t := by
          have e1 : (Int32.ofNat t).toInt = t := mk_i (by omega)
          have := cl_n (x := Int32.ofNat t) (by omega)
          omega
        rw [nt, tN] at hs'
        by_cases c3 : (c.1 (x + 3) S ^^^ ((1 : Int32) <<< (c.1 (a + 3) e &&& 31))).toInt = (c.1 (x + 3) t).toInt
        · rw [if_pos c3] at hs'
          have c3' := Int32.toInt_inj.mp c3
          have fin : ∀ s0, s0 = (if c.1 (a + 4) e = 1 then 0 else (1 : Int32) <<< (c.1 (a + 3) e &&& 31)) → d_X7_tellLevels_b107 x a kn bg sI x5 ((1 : Int32) <<< (c.1 (a + 3) e &&& 31)) s0 c = some (.inl p') → ∃ e : Nat, p'.2.2.toInt = e ∧ e ≤ E ∧ KB bh (c.1 (a + 3)) (c.1 (a + 4)) (c.1 (x + 3)) n E p'.1 p'.2.1 S e := fun s0 h0 hq => by
            unfold d_X7_tellLevels_b107 at hq
            rw [hSn] at hq
            have hb := fun j hj => hv_b (W := c.1 (a + 3)) (R := c.1 (a + 4)) (lv := c.1 (x + 3)) (i := S) (k := e) (j := j) (wI := sI) (s0 := s0) (G5 e he) rfl h0 hj
            have bm := b32_m (x := kn) (e := c.1 (a + 3) e) (G5 e he)
            by_cases c4 : b32 kn (c.1 (a + 3) e).toNatClampNeg = false
            · rw [if_pos (bm.mpr c4)] at hq
              cases hq
              exact ⟨e + 1, p1, he, I.go G2 (G5 e he) ed rfl c3' hb (Or.inl c4)⟩
            · rw [if_neg (fun q => c4 (bm.mp q))] at hq
              by_cases c5 : (bg &&& ((1 : Int32) <<< (c.1 (a + 3) e &&& 31))).toInt = (s0 ^^^ (c.1 (x + 3) S &&& ((1 : Int32) <<< (c.1 (a + 3) e &&& 31)))).toInt
              · rw [if_pos c5] at hq
                cases hq
                refine ⟨e + 1, p1, he, I.go G2 (G5 e he) ed rfl c3' hb (Or.inr ?_)⟩
                have q := congrArg (fun v => b32 v (c.1 (a + 3) e).toNatClampNeg) (Int32.toInt_inj.mp c5)
                have w32 : (c.1 (a + 3) e).toNatClampNeg < 32 := by have := G5 e he; have := cl_n this.1; omega
                have q : b32 (bg &&& ((1 : Int32) <<< (c.1 (a + 3) e &&& 31))) (c.1 (a + 3) e).toNatClampNeg = b32 (s0 ^^^ (c.1 (x + 3) S &&& ((1 : Int32) <<< (c.1 (a + 3) e &&& 31)))) (c.1 (a + 3) e).toNatClampNeg := q
                rw [hb _ w32, b32_and, b32_1 (G5 e he) w32, decide_eq_true rfl, Bool.and_true, Bool.true_and] at q
                exact q
              · rw [if_neg c5] at hq
                cases hq
          by_cases c4 : (c.1 (a + 4) e).toInt = 1
          · rw [if_neg (fun q => q c4)] at hs'
            exact fin 0 (by rw [if_pos (Int32.toInt_inj.mp (c4.trans rfl))]) hs'
          · rw [if_pos c4] at hs'
            exact fin _ (by rw [if_neg (fun q => c4 (by rw [q]; rfl))]) hs'
        · rw [if_neg c3] at hs'
          cases hs'
  · obtain ⟨kn, bg, x5⟩ := p
    obtain ⟨e, i5, ie, I⟩ := hI
    have i5 : x5.toInt = e := i5
    have I : KB bh (c.1 (a + 3)) (c.1 (a + 4)) (c.1 (x + 3)) n E kn bg S e := I
    have hs' : d_X7_tellLevels_l19b x a sI kn bg x5 c = some (.inr z) := hs'
    unfold d_X7_tellLevels_l19b at hs'
    have hen : x5.toNatClampNeg = e := by have := cl_n (x := x5) (by omega); omega
    rw [G3, hSn, hen] at hs'
    by_cases c1 : (E : Int) ≤ x5.toInt
    · rw [if_pos c1] at hs'
      cases hs'
      have : e = E := by omega
      subst this
      exact Or.inl ⟨kn, bg, rfl, I.nx⟩
    · rw [if_neg c1] at hs'
      have he : e < E := by omega
      have rb := b32_t (x := c.1 (x + 2) S) (e := x5) ⟨by omega, by omega⟩
      rw [hen] at rb
      by_cases c2 : b32 (c.1 (x + 2) S) e = false
      · rw [if_neg (fun q => q (rb.mpr c2))] at hs'
        cases hs'
      · rw [if_pos (fun q => c2 (rb.mp q)), ix_1 hs (by omega) i5 (by omega)] at hs'
        have c2' : b32 (c.1 (x + 2) S) e = true := by cases hq : b32 (c.1 (x + 2) S) e with
          | true => rfl
          | false => exact absurd hq c2
        obtain ⟨t, tn, bt, nt⟩ : ∃ t, t < n ∧ bh (16 * S + e) = Int32.ofNat t ∧ c.1 (x + 5) (16 * S + e) = Int32.ofNat t := by
          rcases G7 S e hS he with q | q
          · exact absurd q ((G6 S e hS he).mp c2')
          · exact q
        have ed : ED bh n E S e t := ⟨hS, he, tn, bt⟩
        have tN : (Int32.ofNat t).toNatClampNeg = t := by
          have e1 : (Int32.ofNat t).toInt = t := mk_i (by omega)
          have := cl_n (x := Int32.ofNat t) (by omega)
          omega
        rw [nt, tN] at hs'
        by_cases c3 : (c.1 (x + 3) S ^^^ ((1 : Int32) <<< (c.1 (a + 3) e &&& 31))).toInt = (c.1 (x + 3) t).toInt
        · rw [if_pos c3] at hs'
          have fin : ∀ s0, s0 = (if c.1 (a + 4) e = 1 then 0 else (1 : Int32) <<< (c.1 (a + 3) e &&& 31)) → d_X7_tellLevels_b107 x a kn bg sI x5 ((1 : Int32) <<< (c.1 (a + 3) e &&& 31)) s0 c = some (.inr z) → (∃ kn' bg', z = .inl (kn', bg', sI + 1) ∧ KB bh (c.1 (a + 3)) (c.1 (a + 4)) (c.1 (x + 3)) n E kn' bg' (S + 1) 0) ∨ (z = .inr (0, c) ∧ KF bh (c.1 (a + 3)) (c.1 (a + 4)) (c.1 (x + 3)) n E) := fun s0 h0 hq => by
            unfold d_X7_tellLevels_b107 at hq
            rw [hSn] at hq
            have hb := fun j hj => hv_b (W := c.1 (a + 3)) (R := c.1 (a + 4)) (lv := c.1 (x + 3)) (i := S) (k := e) (j := j) (wI := sI) (s0 := s0) (G5 e he) rfl h0 hj
            have bm := b32_m (x := kn) (e := c.1 (a + 3) e) (G5 e he)
            have w32 : (c.1 (a + 3) e).toNatClampNeg < 32 := by have := G5 e he; have := cl_n this.1; omega
            by_cases c4 : b32 kn (c.1 (a + 3) e).toNatClampNeg = false
            · rw [if_pos (bm.mpr c4)] at hq
              cases hq
            · rw [if_neg (fun q => c4 (bm.mp q))] at hq
              by_cases c5 : (bg &&& ((1 : Int32) <<< (c.1 (a + 3) e &&& 31))).toInt = (s0 ^^^ (c.1 (x + 3) S &&& ((1 : Int32) <<< (c.1 (a + 3) e &&& 31)))).toInt
              · rw [if_pos c5] at hq
                cases hq
              · rw [if_neg c5] at hq
                cases hq
                have c4' : b32 kn (c.1 (a + 3) e).toNatClampNeg = true := by cases hq : b32 kn (c.1 (a + 3) e).toNatClampNeg with
                  | true => rfl
                  | false => exact absurd hq c4
                obtain ⟨i, k, t', g1, g2, g3⟩ := (I.2.1 _ w32).mp c4'
                have gk := G5 k g1.2.1
                have gW : c.1 (a + 3) k = c.1 (a + 3) e := Int32.toInt_inj.mp (by have := cl_n gk.1; have := cl_n (G5 e he).1; omega)
                refine Or.inr ⟨rfl, Or.inr ⟨i, k, t', S, e, t, g1, ed, gW, fun q => c5 ?_⟩⟩
                have q2 := I.2.2.1 i k t' g1 g2
                rw [gW, q] at q2
                refine congrArg Int32.toInt (b32_ext (fun j hj => ?_))
                rw [hb j hj, b32_and, b32_1 (G5 e he) hj]
                by_cases c6 : j = (c.1 (a + 3) e).toNatClampNeg
                · rw [c6, q2, decide_eq_true rfl, Bool.and_true, Bool.true_and]
                · rw [decide_eq_false c6, Bool.and_false, Bool.false_and]
          by_cases c4 : (c.1 (a + 4) e).toInt = 1
          · rw [if_neg (fun q => q c4)] at hs'
            exact fin 0 (by rw [if_pos (Int32.toInt_inj.mp (c4.trans rfl))]) hs'
          · rw [if_pos c4] at hs'
            exact fin _ (by rw [if_neg (fun q => c4 (by rw [q]; rfl))]) hs'
        · rw [if_neg c3] at hs'
          cases hs'
          exact Or.inr ⟨rfl, Or.inl ⟨S, e, t, ed, fun q => c3 (by rw [q])⟩⟩
/-- all levels, turned by what stands at first -/
theorem tl_163 {x : Nat} {c : dc_M} {n : Nat} {v : Int32} {z : Int32 × dc_M} (hn : (c.1 x 0).toInt = n) (hn2 : n ≤ 200) (h : d_X7_tellLevels_l163 x v 0 c = some z) : z.1 = 1 ∧ z.2.2 = c.2 ∧ (∀ b, b ≠ x + 3 → z.2.1 b = c.1 b) ∧ ∀ i, i < n → z.2.1 (x + 3) i = c.1 (x + 3) i ^^^ v := by
  unfold d_X7_tellLevels_l163 at h
  have q : z.1 = 1 ∧ z.2.2 = c.2 ∧ ∀ b k, z.2.1 b k = if b = x + 3 ∧ k < n then c.1 b k ^^^ v else c.1 b k := by
    refine dc_lp_inv (f := d_X7_tellLevels_l163s x v) (s := (0, c)) (fun p : Int32 × dc_M => ∃ s : Nat, p.1.toInt = s ∧ s ≤ n ∧ p.2.2 = c.2 ∧ ∀ b k, p.2.1 b k = if b = x + 3 ∧ k < s then c.1 b k ^^^ v else c.1 b k) (fun z : Int32 × dc_M => z.1 = 1 ∧ z.2.2 = c.2 ∧ ∀ b k, z.2.1 b k = if b = x + 3 ∧ k < n then c.1 b k ^^^ v else c.1 b k) (fun p p' hI hs' => ?_) (fun p z hI hs' => ?_) ⟨0, rfl, Nat.zero_le _, rfl, fun b k => by rw [if_neg (by omega)]⟩ h
    · obtain ⟨sI, m⟩ := p
      obtain ⟨s, hs, hsn, f2, f3⟩ := hI
      have hs : sI.toInt = s := hs
      have f3 : ∀ b k, m.1 b k = if b = x + 3 ∧ k < s then c.1 b k ^^^ v else c.1 b k := f3
      have hs' : d_X7_tellLevels_l163b x v sI m = some (.inl p') := hs'
      unfold d_X7_tellLevels_l163b at hs'
      have f0 : m.1 x 0 = c.1 x 0 := by rw [f3, if_neg (by omega)]
      rw [f0, hn] at hs'
      have hsN : sI.toNatClampNeg = s := by have := cl_n (x := sI) (by omega); omega
      by_cases c1 : (n : Int) ≤ sI.toInt
      · rw [if_pos c1] at hs'; cases hs'
      · rw [if_neg c1, hsN] at hs'
        cases hs'
        refine ⟨s + 1, by show (sI + 1).toInt = _; rw [i1 (by omega) (Int32.le_toInt _)]; omega, by omega, f2, fun b k => ?_⟩
        show (dc_wi m (x + 3) s (m.1 (x + 3) s ^^^ v)).1 b k = _
        by_cases c2 : b = x + 3 ∧ k = s
        · rw [c2.1, c2.2, wi_s, f3, if_neg (by omega), if_pos ⟨rfl, by omega⟩]
        · rw [wi_k c2, f3]
          by_cases c3 : b = x + 3 ∧ k < s
          · rw [if_pos c3, if_pos ⟨c3.1, by omega⟩]
          · rw [if_neg c3, if_neg (by omega)]
    · obtain ⟨sI, m⟩ := p
      obtain ⟨s, hs, hsn, f2, f3⟩ := hI
      have hs : sI.toInt = s := hs
      have f3 : ∀ b k, m.1 b k = if b = x + 3 ∧ k < s then c.1 b k ^^^ v else c.1 b k := f3
      have hs' : d_X7_tellLevels_l163b x v sI m = some (.inr z) := hs'
      unfold d_X7_tellLevels_l163b at hs'
      have f0 : m.1 x 0 = c.1 x 0 := by rw [f3, if_neg (by omega)]
      rw [f0, hn] at hs'
      by_cases c1 : (n : Int) ≤ sI.toInt
      · rw [if_pos c1] at hs'
        cases hs'
        have : s = n := by omega
        subst this
        exact ⟨rfl, f2, f3⟩
      · rw [if_neg c1] at hs'; cases hs'
  refine ⟨q.1, q.2.1, fun b hb => funext (fun k => ?_), fun i hi => ?_⟩
  · rw [q.2.2, if_neg (fun z => hb z.1)]
  · rw [q.2.2, if_pos ⟨rfl, hi⟩]
theorem tl_run {x a : Nat} {c : dc_M} {bh : Nat → Int32} {n E : Nat} {z : Int32 × dc_M} (G : KG x a c bh n E) (h : d_X7_tellLevels x a c = some z) : (z.1 = 1 ∧ z.2.2 = c.2 ∧ (∀ b, b ≠ x + 3 → z.2.1 b = c.1 b) ∧ ∃ kn v, KB bh (c.1 (a + 3)) (c.1 (a + 4)) (c.1 (x + 3)) n E kn v n 0 ∧ ∀ i, i < n → z.2.1 (x + 3) i = c.1 (x + 3) i ^^^ v) ∨ (z = (0, c) ∧ KF bh (c.1 (a + 3)) (c.1 (a + 4)) (c.1 (x + 3)) n E) := by
  have ⟨G1, G2, _⟩ := G
  unfold d_X7_tellLevels d_X7_tellLevels_l7 at h
  refine dc_lp_inv (f := d_X7_tellLevels_l7s x a c) (s := (0, 0, 0)) (fun p : Int32 × Int32 × Int32 => ∃ s : Nat, p.2.2.toInt = s ∧ s ≤ n ∧ KB bh (c.1 (a + 3)) (c.1 (a + 4)) (c.1 (x + 3)) n E p.1 p.2.1 s 0) (fun z : Int32 × dc_M => (z.1 = 1 ∧ z.2.2 = c.2 ∧ (∀ b, b ≠ x + 3 → z.2.1 b = c.1 b) ∧ ∃ kn v, KB bh (c.1 (a + 3)) (c.1 (a + 4)) (c.1 (x + 3)) n E kn v n 0 ∧ ∀ i, i < n → z.2.1 (x + 3) i = c.1 (x + 3) i ^^^ v) ∨ (z = (0, c) ∧ KF bh (c.1 (a + 3)) (c.1 (a + 4)) (c.1 (x + 3)) n E)) (fun p p' hI hs' => ?_) (fun p z hI hs' => ?_) ⟨0, rfl, Nat.zero_le _, ⟨fun i k t _ hd => by unfold dn at hd; omega, fun w hw => ?_, fun i k t _ hd => by unfold dn at hd; omega, fun w hw q => ?_⟩⟩ h
  · obtain ⟨kn, bg, sI⟩ := p
    obtain ⟨s, hs, hsn, I⟩ := hI
    have hs : sI.toInt = s := hs
    have hs' : d_X7_tellLevels_l7b x a kn bg sI c = some (.inl p') := hs'
    unfold d_X7_tellLevels_l7b at hs'
    rw [G1] at hs'
    by_cases c1 : (n : Int) ≤ sI.toInt
    · rw [if_pos c1] at hs'
      cases hz : d_X7_tellLevels_l163 x bg 0 c with
      | none => rw [hz] at hs'; cases hs'
      | some q => rw [hz] at hs'; cases hs'
    · rw [if_neg c1] at hs'
      rcases tl_19 G hs (by omega) I hs' with ⟨kn', bg', e, I'⟩ | ⟨e, -⟩
      · cases e
        exact ⟨s + 1, by show (sI + 1).toInt = _; rw [i1 (by omega) (Int32.le_toInt _)]; omega, by omega, I'⟩
      · cases e
  · obtain ⟨kn, bg, sI⟩ := p
    obtain ⟨s, hs, hsn, I⟩ := hI
    have hs : sI.toInt = s := hs
    have I : KB bh (c.1 (a + 3)) (c.1 (a + 4)) (c.1 (x + 3)) n E kn bg s 0 := I
    have hs' : d_X7_tellLevels_l7b x a kn bg sI c = some (.inr z) := hs'
    unfold d_X7_tellLevels_l7b at hs'
    rw [G1] at hs'
    by_cases c1 : (n : Int) ≤ sI.toInt
    · rw [if_pos c1] at hs'
      cases hz : d_X7_tellLevels_l163 x bg 0 c with
      | none => rw [hz] at hs'; cases hs'
      | some q =>
        rw [hz] at hs'
        cases hs'
        have : s = n := by omega
        subst this
        obtain ⟨t1, t2, t3, t4⟩ := tl_163 G1 G2 hz
        exact Or.inl ⟨t1, t2, t3, kn, bg, I, t4⟩
    · rw [if_neg c1] at hs'
      rcases tl_19 G hs (by omega) I hs' with ⟨kn', bg', e, I'⟩ | ⟨e, F⟩
      · cases e
      · cases e
        exact Or.inr ⟨rfl, F⟩
  · rw [b32_0]
    exact ⟨fun q => (by cases q), fun ⟨i, k, t, _, hd, _⟩ => by unfold dn at hd; omega⟩
  · rw [b32_0] at q
    cases q
