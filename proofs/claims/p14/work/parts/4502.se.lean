/-! ===== states: both sides meet the same ones ===== -/
def dn (s e i k : Nat) : Prop := i < s ∨ (i = s ∧ k < e)
def XQ (E : Int) (W mk mk' sl bh nx lv : Nat → Int32) (n s e : Nat) : Prop := (∀ j, j < n → mk j = mk' j) ∧ (∀ i j, i < n → j < n → mk i = mk j → i = j) ∧ HTI sl mk n ∧ (∀ i k : Nat, i < n → (k : Int) < E → dn s e i k → bh (16 * i + k) = -4 ∨ ∃ t, t < n ∧ bh (16 * i + k) = Int32.ofNat t ∧ nx (16 * i + k) = Int32.ofNat t) ∧ lv 0 = 0 ∧ ∀ t, 0 < t → t < n → ∃ i k : Nat, i < t ∧ (k : Int) < E ∧ dn s e i k ∧ bh (16 * i + k) = Int32.ofNat t ∧ lv t = lv i ^^^ ((1 : Int32) <<< (W k &&& 31))
theorem XQ.no {E : Int} {W mk mk' sl bh nx lv : Nat → Int32} {n s e : Nat} (h : XQ E W mk mk' sl bh nx lv n s e) (hE : E ≤ 16) (he : e < 16) : XQ E W mk mk' sl (upd bh (16 * s + e) (-4)) nx lv n s (e + 1) := by
  obtain ⟨h1, h2, h3, h4, h5, h6⟩ := h
  refine ⟨h1, h2, h3, fun i k hi hk hd => ?_, h5, fun t t0 t1 => ?_⟩
  · by_cases c : 16 * i + k = 16 * s + e
    · rw [c, upd_s]
      exact Or.inl rfl
    · rw [upd_n c]
      exact h4 i k hi hk (by unfold dn at hd ⊢; omega)
  · obtain ⟨i, k, g1, g2, g3, g4, g5⟩ := h6 t t0 t1
    refine ⟨i, k, g1, g2, by unfold dn at g3 ⊢; omega, ?_, g5⟩
    rw [upd_n (by unfold dn at g3; omega)]
    exact g4
theorem XQ.old {E : Int} {W mk mk' sl bh nx lv : Nat → Int32} {n s e t : Nat} (h : XQ E W mk mk' sl bh nx lv n s e) (hE : E ≤ 16) (he : e < 16) (ht : t < n) : XQ E W mk mk' sl (upd bh (16 * s + e) (Int32.ofNat t)) (upd nx (16 * s + e) (Int32.ofNat t)) lv n s (e + 1) := by
  obtain ⟨h1, h2, h3, h4, h5, h6⟩ := h
  refine ⟨h1, h2, h3, fun i k hi hk hd => ?_, h5, fun t t0 t1 => ?_⟩
  · by_cases c : 16 * i + k = 16 * s + e
    · rw [c, upd_s, upd_s]
      exact Or.inr ⟨t, ht, rfl, rfl⟩
    · rw [upd_n c, upd_n c]
      exact h4 i k hi hk (by unfold dn at hd ⊢; omega)
  · obtain ⟨i, k, g1, g2, g3, g4, g5⟩ := h6 t t0 t1
    refine ⟨i, k, g1, g2, by unfold dn at g3 ⊢; omega, ?_, g5⟩
    rw [upd_n (by unfold dn at g3; omega)]
    exact g4
theorem XQ.new {E : Int} {W mk mk' sl sl' bh nx lv : Nat → Int32} {n s e : Nat} {v : Int32} (h : XQ E W mk mk' sl bh nx lv n s e) (hE : E ≤ 16) (he : (e : Int) < E) (hs : s < n) (hv : ∀ j, j < n → mk j ≠ v) (hH : HTI sl' (upd mk n v) (n + 1)) : XQ E W (upd mk n v) (upd mk' n v) sl' (upd bh (16 * s + e) (Int32.ofNat n)) (upd nx (16 * s + e) (Int32.ofNat n)) (upd lv n (lv s ^^^ ((1 : Int32) <<< (W e &&& 31)))) (n + 1) s (e + 1) := by
  obtain ⟨h1, h2, h3, h4, h5, h6⟩ := h
  refine ⟨fun j hj => ?_, fun i j hi hj q => ?_, hH, fun i k hi hk hd => ?_, by rw [upd_n (by omega)]; exact h5, fun t t0 t1 => ?_⟩
  · by_cases c : j = n
    · rw [c, upd_s, upd_s]
    · rw [upd_n c, upd_n c]
      exact h1 j (by omega)
  · by_cases c : i = n
    · by_cases c2 : j = n
      · omega
      · rw [c, upd_s, upd_n c2] at q
        exact absurd q.symm (hv j (by omega))
    · by_cases c2 : j = n
      · rw [c2, upd_s, upd_n c] at q
        exact absurd q (hv i (by omega))
      · rw [upd_n c, upd_n c2] at q
        exact h2 i j (by omega) (by omega) q
  · by_cases c : 16 * i + k = 16 * s + e
    · rw [c, upd_s, upd_s]
      exact Or.inr ⟨n, by omega, rfl, rfl⟩
    · rw [upd_n c, upd_n c]
      unfold dn at hd
      rcases h4 i k (by omega) hk (by unfold dn; omega) with g | ⟨t, g1, g2⟩
      · exact Or.inl g
      · exact Or.inr ⟨t, by omega, g2⟩
  · by_cases c : t = n
    · refine ⟨s, e, by omega, he, by unfold dn; omega, by rw [upd_s, c], by rw [c, upd_s, upd_n (by omega)]⟩
    · obtain ⟨i, k, g1, g2, g3, g4, g5⟩ := h6 t t0 (by omega)
      refine ⟨i, k, by omega, g2, by unfold dn at g3 ⊢; omega, ?_, by rw [upd_n c, upd_n (by omega)]; exact g5⟩
      rw [upd_n (by unfold dn at g3; omega)]
      exact g4
/-- a state's row while it is laid: the events, the wires -/
def PR (W bh : Nat → Int32) (x4 x5 : Int32) (s e : Nat) : Prop := (∀ k, k < 32 → b32 x4 k = (decide (k < e) && decide (bh (16 * s + k) ≠ -4))) ∧ ∀ b, b < 32 → (b32 x5 b = true ↔ ∃ k, k < e ∧ bh (16 * s + k) ≠ -4 ∧ b32 ((1 : Int32) <<< (W k &&& 31)) b = true)
theorem PR.no {W bh : Nat → Int32} {x4 x5 : Int32} {s e : Nat} (h : PR W bh x4 x5 s e) (he : e < 16) : PR W (upd bh (16 * s + e) (-4)) x4 x5 s (e + 1) := by
  obtain ⟨h1, h2⟩ := h
  refine ⟨fun k hk => ?_, fun b hb => ?_⟩
  · rw [h1 k hk]
    by_cases c : k = e
    · rw [c, upd_s, decide_eq_false (Nat.lt_irrefl _), decide_eq_false (show ¬ (-4 : Int32) ≠ -4 from fun q => q rfl), Bool.false_and, Bool.and_false]
    · rw [upd_n (by omega), show decide (k < e + 1) = decide (k < e) from decide_eq_decide.mpr (by omega)]
  · rw [h2 b hb]
    refine ⟨fun ⟨k, g1, g2, g3⟩ => ⟨k, by omega, by rw [upd_n (by omega)]; exact g2, g3⟩, fun ⟨k, g1, g2, g3⟩ => ?_⟩
    by_cases c : k = e
    · rw [c, upd_s] at g2
      exact absurd rfl g2
    · rw [upd_n (by omega)] at g2
      exact ⟨k, by omega, g2, g3⟩
theorem PR.go {W bh : Nat → Int32} {x4 x5 i v : Int32} {s e : Nat} (h : PR W bh x4 x5 s e) (he : e < 16) (hi : i.toInt = e) (hv : v ≠ -4) : PR W (upd bh (16 * s + e) v) (x4 ||| ((1 : Int32) <<< (i &&& 31))) (x5 ||| ((1 : Int32) <<< (W e &&& 31))) s (e + 1) := by
  obtain ⟨h1, h2⟩ := h
  have hn := cl_n (x := i) (by omega)
  refine ⟨fun k hk => ?_, fun b hb => ?_⟩
  · rw [b32_or, h1 k hk, b32_1 ⟨by omega, by omega⟩ hk, show i.toNatClampNeg = e by omega]
    by_cases c : k = e
    · rw [c, upd_s, decide_eq_true hv, decide_eq_true rfl, decide_eq_true (Nat.lt_succ_self e)]
      simp
    · rw [upd_n (by omega), decide_eq_false c, Bool.or_false, show decide (k < e + 1) = decide (k < e) from decide_eq_decide.mpr (by omega)]
  · rw [b32_or, Bool.or_eq_true, h2 b hb]
    constructor
    · rintro (⟨k, g1, g2, g3⟩ | g)
      · exact ⟨k, by omega, by rw [upd_n (by omega)]; exact g2, g3⟩
      · exact ⟨e, by omega, by rw [upd_s]; exact hv, g⟩
    · rintro ⟨k, g1, g2, g3⟩
      by_cases c : k = e
      · rw [c] at g3
        exact Or.inr g3
      · rw [upd_n (by omega)] at g2
        exact Or.inl ⟨k, by omega, g2, g3⟩
def RW (E : Int) (W bh rd ec : Nat → Int32) (cm : Int32) (s : Nat) : Prop := (∀ i, i < s → (∀ k, k < 32 → b32 (rd i) k = (decide ((k : Int) < E) && decide (bh (16 * i + k) ≠ -4))) ∧ ∀ b, b < 32 → (b32 (ec i) b = true ↔ ∃ k : Nat, (k : Int) < E ∧ bh (16 * i + k) ≠ -4 ∧ b32 ((1 : Int32) <<< (W k &&& 31)) b = true)) ∧ ∀ k, k < 32 → (b32 cm k = true ↔ ∃ i, i < s ∧ b32 (rd i) k = true)
theorem RW.bh {E : Int} {W bh rd ec : Nat → Int32} {cm v : Int32} {s e : Nat} (h : RW E W bh rd ec cm s) (hE : E ≤ 16) : RW E W (upd bh (16 * s + e) v) rd ec cm s := by
  refine ⟨fun i hi => ⟨fun k hk => ?_, fun b hb => ?_⟩, h.2⟩
  · rw [(h.1 i hi).1 k hk]
    by_cases c : (k : Int) < E
    · rw [upd_n (by omega)]
    · rw [decide_eq_false c, Bool.false_and, Bool.false_and]
  · rw [(h.1 i hi).2 b hb]
    exact ⟨fun ⟨k, g1, g2, g3⟩ => ⟨k, g1, by rw [upd_n (by omega)]; exact g2, g3⟩, fun ⟨k, g1, g2, g3⟩ => ⟨k, g1, by rw [upd_n (by omega)] at g2; exact g2, g3⟩⟩
theorem RW.row {E : Nat} {W bh rd ec : Nat → Int32} {cm x4 x5 : Int32} {s : Nat} (h : RW E W bh rd ec cm s) (p : PR W bh x4 x5 s E) : RW E W bh (upd rd s x4) (upd ec s x5) (cm ||| x4) (s + 1) := by
  refine ⟨fun i hi => ?_, fun k hk => ?_⟩
  · by_cases c : i = s
    · rw [c, upd_s, upd_s]
      refine ⟨fun k hk => ?_, fun b hb => ?_⟩
      · rw [p.1 k hk, show decide ((k : Int) < (E : Int)) = decide (k < E) from decide_eq_decide.mpr (by omega)]
      · rw [p.2 b hb]
        exact ⟨fun ⟨k, g⟩ => ⟨k, by omega, g.2⟩, fun ⟨k, g⟩ => ⟨k, by omega, g.2⟩⟩
    · rw [upd_n c, upd_n c]
      exact h.1 i (by omega)
  · rw [b32_or, Bool.or_eq_true, h.2 k hk]
    constructor
    · rintro (⟨i, g1, g2⟩ | g)
      · exact ⟨i, by omega, by rw [upd_n (by omega)]; exact g2⟩
      · exact ⟨s, by omega, by rw [upd_s]; exact g⟩
    · rintro ⟨i, g1, g2⟩
      by_cases c : i = s
      · rw [c, upd_s] at g2
        exact Or.inr g2
      · rw [upd_n c] at g2
        exact Or.inl ⟨i, by omega, g2⟩
/-! the reference's search -/
theorem so_run {t q : Int32} {m : dc_M} {n : Nat} (hn : (m.1 82 32).toInt = n) (h : d_X10_stateOf 82 t m = some q) : (∃ s, s < n ∧ q = Int32.ofNat s ∧ m.1 99 s = t) ∨ (q = m.1 82 32 ∧ ∀ s, s < n → m.1 99 s ≠ t) := by
  have hb : n < 2147483648 := by have := Int32.toInt_lt (m.1 82 32); omega
  unfold d_X10_stateOf d_X10_stateOf_l2 at h
  refine dc_lp_inv (f := d_X10_stateOf_l2s 82 t m) (s := 0) (fun s : Int32 => 0 ≤ s.toInt ∧ s.toInt ≤ n ∧ ∀ j : Nat, (j : Int) < s.toInt → m.1 99 j ≠ t) (fun q => (∃ s, s < n ∧ q = Int32.ofNat s ∧ m.1 99 s = t) ∨ (q = m.1 82 32 ∧ ∀ s, s < n → m.1 99 s ≠ t)) (fun s s' hI hs => ?_) (fun s e hI hs => ?_) ⟨by decide, by rw [show (0 : Int32).toInt = 0 from rfl]; omega, fun j hj => by rw [show (0 : Int32).toInt = 0 from rfl] at hj; omega⟩ h
  · obtain ⟨s0, s1, s2⟩ := hI
    have hs : d_X10_stateOf_l2b 82 t s m = some (.inl s') := hs
    unfold d_X10_stateOf_l2b at hs
    rw [hn] at hs
    have hc := cl_n s0
    by_cases c1 : (n : Int) ≤ s.toInt
    · rw [if_pos c1] at hs; cases hs
    · rw [if_neg c1] at hs
      by_cases c2 : (m.1 (82 + 17) s.toNatClampNeg).toInt = t.toInt
      · rw [if_pos c2] at hs; cases hs
      · rw [if_neg c2] at hs
        cases hs
        have p1 : (s + 1).toInt = s.toInt + 1 := i1 (by omega) (Int32.le_toInt _)
        refine ⟨by omega, by omega, fun j hj => ?_⟩
        by_cases c3 : (j : Int) < s.toInt
        · exact s2 j c3
        · rw [show j = s.toNatClampNeg by omega]
          exact fun q => c2 (congrArg Int32.toInt q)
  · obtain ⟨s0, s1, s2⟩ := hI
    have hs : d_X10_stateOf_l2b 82 t s m = some (.inr e) := hs
    unfold d_X10_stateOf_l2b at hs
    have hc := cl_n s0
    by_cases c1 : (m.1 82 32).toInt ≤ s.toInt
    · rw [if_pos c1] at hs
      cases hs
      exact Or.inr ⟨Int32.toInt_inj.mp (by omega), fun j hj => s2 j (by omega)⟩
    · rw [if_neg c1] at hs
      by_cases c2 : (m.1 (82 + 17) s.toNatClampNeg).toInt = t.toInt
      · rw [if_pos c2] at hs
        cases hs
        exact Or.inl ⟨s.toNatClampNeg, by omega, Int32.toInt_inj.mp (by rw [mk_i (by omega)]; omega), Int32.toInt_inj.mp c2⟩
      · rw [if_neg c2] at hs; cases hs
