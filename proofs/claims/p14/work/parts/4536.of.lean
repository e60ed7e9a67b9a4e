/-! ===== of: what a state shows, on both sides ===== -/
theorem ri_run {i E : Nat} {x1 q : Int32} {m : dc_M} (hi : x1.toInt = i) (h2 : i < 200) (hE : (m.1 82 3).toInt = E) (h3 : E ≤ 16) (h : d_X10_readyIn 82 x1 m = some q) : ∀ k, k < 32 → b32 q k = (decide ((k : Int) < E) && decide (m.1 100 (16 * i + k) ≠ -4)) := by
  unfold d_X10_readyIn d_X10_readyIn_l4 at h
  refine dc_lp_inv (f := d_X10_readyIn_l4s 82 x1 m) (s := ((0 : Int32), (0 : Int32))) (fun s : Int32 × Int32 => ∃ e : Nat, s.2.toInt = e ∧ e ≤ E ∧ ∀ k, k < 32 → b32 s.1 k = (decide (k < e) && decide (m.1 100 (16 * i + k) ≠ -4))) (fun q => ∀ k, k < 32 → b32 q k = (decide ((k : Int) < E) && decide (m.1 100 (16 * i + k) ≠ -4))) (fun s s' hI hs => ?_) (fun s q hI hs => ?_) ⟨0, rfl, by omega, fun k _ => by rw [b32_0, decide_eq_false (by omega), Bool.false_and]⟩ h
  · obtain ⟨x, y⟩ := s
    obtain ⟨e, he, h1, hb⟩ := hI
    have he : y.toInt = e := he
    have hb : ∀ k, k < 32 → b32 x k = (decide (k < e) && decide (m.1 100 (16 * i + k) ≠ -4)) := hb
    have hs : d_X10_readyIn_l4b 82 x1 x y m = some (.inl s') := hs
    unfold d_X10_readyIn_l4b at hs
    rw [hE] at hs
    by_cases c : (E : Int) ≤ y.toInt
    · rw [if_pos c] at hs; cases hs
    · rw [if_neg c, ix_2 hi h2 he (by omega)] at hs
      have y1 : (y + 1).toInt = ((e + 1 : Nat) : Int) := by rw [i1 (by omega) (Int32.le_toInt _)]; omega
      have hs : (if ¬ (m.1 100 (16 * i + e)).toInt = -4 then some (Sum.inl (x ||| ((1 : Int32) <<< (y &&& 31)), y + 1)) else some (Sum.inl (x ||| 0, y + 1))) = some (Sum.inl s') := hs
      by_cases c2 : (m.1 100 (16 * i + e)).toInt = -4
      · rw [if_neg (fun q => q c2)] at hs
        cases hs
        refine ⟨e + 1, y1, by omega, fun k hk => ?_⟩
        show b32 (x ||| 0) k = _
        rw [b32_or, b32_0, Bool.or_false, hb k hk]
        by_cases c3 : k = e
        · rw [c3, decide_eq_false (Nat.lt_irrefl _), Bool.false_and, decide_eq_false (show ¬ m.1 100 (16 * i + e) ≠ -4 from fun q => q (Int32.toInt_inj.mp (c2.trans (show (-4 : Int) = (-4 : Int32).toInt from rfl)))), Bool.and_false]
        · rw [show decide (k < e + 1) = decide (k < e) from decide_eq_decide.mpr (by omega)]
      · rw [if_pos c2] at hs
        cases hs
        refine ⟨e + 1, y1, by omega, fun k hk => ?_⟩
        show b32 (x ||| ((1 : Int32) <<< (y &&& 31))) k = _
        have hn := cl_n (x := y) (by omega)
        rw [b32_or, hb k hk, b32_1 ⟨by omega, by omega⟩ hk, show y.toNatClampNeg = e by omega]
        by_cases c3 : k = e
        · rw [c3, decide_eq_true (Nat.lt_succ_self e), decide_eq_true (show m.1 100 (16 * i + e) ≠ -4 from fun q => c2 (by rw [q]; rfl)), decide_eq_true rfl, Bool.or_true]
          rfl
        · rw [decide_eq_false c3, Bool.or_false, show decide (k < e + 1) = decide (k < e) from decide_eq_decide.mpr (by omega)]
  · obtain ⟨x, y⟩ := s
    obtain ⟨e, he, h1, hb⟩ := hI
    have he : y.toInt = e := he
    have hb : ∀ k, k < 32 → b32 x k = (decide (k < e) && decide (m.1 100 (16 * i + k) ≠ -4)) := hb
    have hs : d_X10_readyIn_l4b 82 x1 x y m = some (.inr q) := hs
    unfold d_X10_readyIn_l4b at hs
    rw [hE] at hs
    by_cases c : (E : Int) ≤ y.toInt
    · rw [if_pos c] at hs
      cases hs
      intro k hk
      rw [hb k hk, show decide (k < e) = decide ((k : Int) < E) from decide_eq_decide.mpr (by omega)]
    · rw [if_neg c] at hs
      split at hs <;> cases hs
theorem ei_run {i E : Nat} {x1 q : Int32} {m : dc_M} (hi : x1.toInt = i) (h2 : i < 200) (hE : (m.1 82 3).toInt = E) (h3 : E ≤ 16) (h : d_X10_excited 82 x1 m = some q) : ∀ b, b < 32 → (b32 q b = true ↔ ∃ k : Nat, (k : Int) < E ∧ m.1 100 (16 * i + k) ≠ -4 ∧ b32 ((1 : Int32) <<< (m.1 85 k &&& 31)) b = true) := by
  unfold d_X10_excited d_X10_excited_l4 at h
  refine dc_lp_inv (f := d_X10_excited_l4s 82 x1 m) (s := ((0 : Int32), (0 : Int32))) (fun s : Int32 × Int32 => ∃ e : Nat, s.2.toInt = e ∧ e ≤ E ∧ ∀ b, b < 32 → (b32 s.1 b = true ↔ ∃ k : Nat, k < e ∧ m.1 100 (16 * i + k) ≠ -4 ∧ b32 ((1 : Int32) <<< (m.1 85 k &&& 31)) b = true)) (fun q => ∀ b, b < 32 → (b32 q b = true ↔ ∃ k : Nat, (k : Int) < E ∧ m.1 100 (16 * i + k) ≠ -4 ∧ b32 ((1 : Int32) <<< (m.1 85 k &&& 31)) b = true)) (fun s s' hI hs => ?_) (fun s q hI hs => ?_) ⟨0, rfl, by omega, fun b _ => ⟨fun q => (by rw [b32_0] at q; cases q), fun ⟨k, g, _⟩ => absurd g (Nat.not_lt_zero k)⟩⟩ h
  · obtain ⟨x, y⟩ := s
    obtain ⟨e, he, h1, hb⟩ := hI
    have he : y.toInt = e := he
    have hb : ∀ b, b < 32 → (b32 x b = true ↔ ∃ k : Nat, k < e ∧ m.1 100 (16 * i + k) ≠ -4 ∧ b32 ((1 : Int32) <<< (m.1 85 k &&& 31)) b = true) := hb
    have hs : d_X10_excited_l4b 82 x1 x y m = some (.inl s') := hs
    unfold d_X10_excited_l4b at hs
    rw [hE] at hs
    by_cases c : (E : Int) ≤ y.toInt
    · rw [if_pos c] at hs; cases hs
    · have hn := cl_n (x := y) (by omega)
      rw [if_neg c, ix_2 hi h2 he (by omega), show y.toNatClampNeg = e by omega] at hs
      have y1 : (y + 1).toInt = ((e + 1 : Nat) : Int) := by rw [i1 (by omega) (Int32.le_toInt _)]; omega
      have hs : (if ¬ (m.1 100 (16 * i + e)).toInt = -4 then some (Sum.inl (x ||| ((1 : Int32) <<< (m.1 85 e &&& 31)), y + 1)) else some (Sum.inl (x ||| 0, y + 1))) = some (Sum.inl s') := hs
      by_cases c2 : (m.1 100 (16 * i + e)).toInt = -4
      · rw [if_neg (fun q => q c2)] at hs
        cases hs
        have c4 : m.1 100 (16 * i + e) = -4 := Int32.toInt_inj.mp (c2.trans (show (-4 : Int) = (-4 : Int32).toInt from rfl))
        refine ⟨e + 1, y1, by omega, fun b hk => ?_⟩
        show b32 (x ||| 0) b = true ↔ _
        rw [b32_or, b32_0, Bool.or_false, hb b hk]
        constructor
        · rintro ⟨k, g1, g2⟩
          exact ⟨k, by omega, g2⟩
        · rintro ⟨k, g1, g2, g3⟩
          by_cases c3 : k = e
          · rw [c3] at g2
            exact absurd c4 g2
          · exact ⟨k, by omega, g2, g3⟩
      · rw [if_pos c2] at hs
        cases hs
        refine ⟨e + 1, y1, by omega, fun b hk => ?_⟩
        show b32 (x ||| ((1 : Int32) <<< (m.1 85 e &&& 31))) b = true ↔ _
        rw [b32_or, Bool.or_eq_true, hb b hk]
        constructor
        · rintro (⟨k, g1, g2⟩ | g)
          · exact ⟨k, by omega, g2⟩
          · exact ⟨e, by omega, fun q => c2 (by rw [q]; rfl), g⟩
        · rintro ⟨k, g1, g2, g3⟩
          by_cases c3 : k = e
          · rw [c3] at g3
            exact Or.inr g3
          · exact Or.inl ⟨k, by omega, g2, g3⟩
  · obtain ⟨x, y⟩ := s
    obtain ⟨e, he, h1, hb⟩ := hI
    have he : y.toInt = e := he
    have hb : ∀ b, b < 32 → (b32 x b = true ↔ ∃ k : Nat, k < e ∧ m.1 100 (16 * i + k) ≠ -4 ∧ b32 ((1 : Int32) <<< (m.1 85 k &&& 31)) b = true) := hb
    have hs : d_X10_excited_l4b 82 x1 x y m = some (.inr q) := hs
    unfold d_X10_excited_l4b at hs
    rw [hE] at hs
    by_cases c : (E : Int) ≤ y.toInt
    · rw [if_pos c] at hs
      cases hs
      intro b hk
      rw [hb b hk]
      exact ⟨fun ⟨k, g⟩ => ⟨k, by omega, g.2⟩, fun ⟨k, g⟩ => ⟨k, by omega, g.2⟩⟩
    · rw [if_neg c] at hs
      split at hs <;> cases hs
