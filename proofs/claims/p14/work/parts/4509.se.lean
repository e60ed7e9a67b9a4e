/-! ===== right: both sides ===== -/
/-- wires of events, rises: the same, as they are told -/
def NW2 (a : Nat) (c m : dc_M) : Prop := (c.1 a 0 = m.1 82 0 ∧ 0 ≤ (c.1 a 0).toInt ∧ (c.1 a 0).toInt ≤ 6) ∧ ∀ k : Nat, (k : Int) < (c.1 a 1).toInt → c.1 (a + 3) k = m.1 85 k ∧ c.1 (a + 4) k = m.1 86 k ∧ (0 ≤ (c.1 (a + 3) k).toInt ∧ (c.1 (a + 3) k).toInt < (c.1 a 0).toInt) ∧ (c.1 (a + 4) k = 0 ∨ c.1 (a + 4) k = 1)
def SQ (E : Int) (W mk mk' nx bh rd ec : Nat → Int32) (cm : Int32) (n : Nat) : Prop := (∀ j, j < n → mk j = mk' j) ∧ (∀ i k : Nat, i < n → (k : Int) < E → bh (16 * i + k) = -4 ∨ ∃ t, t < n ∧ bh (16 * i + k) = Int32.ofNat t ∧ nx (16 * i + k) = Int32.ofNat t) ∧ RW E W bh rd ec cm n
/-- what both sides have, once the class has explored and the reference has laid right -/
def SP (x a : Nat) (z m : dc_M) : Prop := (z.1 x 1 = 0 ∧ m.1 82 33 = 1 ∧ ∃ n : Nat, (1 ≤ n ∧ n ≤ 200) ∧ (z.1 x 0).toInt = n ∧ m.1 82 32 = z.1 x 0 ∧ SQ (z.1 a 1).toInt (z.1 (a + 3)) (z.1 (x + 1)) (m.1 99) (z.1 (x + 5)) (m.1 100) (z.1 (x + 2)) (z.1 (x + 4)) (z.1 x 2) n ∧ z.1 x 3 = m.1 82 37 ∧ (m.1 82 37 = 0 ∨ m.1 82 37 = 1) ∧ (m.1 82 37 = 1 → ∀ i, i < n → z.1 (x + 3) i = m.1 101 i ∧ ∀ j, 6 ≤ j → j < 32 → b32 (m.1 101 i) j = false)) ∨ (∃ v, z.1 x 1 = v ∧ (v = -2 ∨ v = -6) ∧ m.1 82 33 = v ∧ z.1 x 0 = 0 ∧ z.1 x 3 = 0 ∧ m.1 82 37 = 0)
theorem rt_sim {x a : Nat} {c m z : dc_M} {y : Int32 × dc_M} (hx : x = 4 ∨ x = 63) (ha : a = 41 ∨ a = 52) (N : NL a c m) (N2 : NW2 a c m) (len : (c.2.2.2 (x + 6)).2 = 512) (h1 : d_X7_explore x a c = some z) (h2 : d_X10_layRight 82 m = some y) : FC x c z ∧ FM m y.2 ∧ SP x a z y.2 ∧ y.1 = y.2.1 82 37 := by
  unfold d_X10_layRight at h2
  cases hq : d_X10_layStates 82 m with
  | none => rw [hq] at h2; cases h2
  | some q =>
    rw [hq, Option.bind_some] at h2
    rcases ex_sim hx ha N len h1 hq with ⟨n, c1, I, q1, hb⟩ | ⟨v, c1, F, q1, hb⟩
    · -- all states are met
      obtain ⟨⟨n1, n2⟩, g0, g32, g1, g33, Q, RR, fC, fM⟩ := I
      obtain ⟨Q1, Q2, Q3, Q4, Q5, Q6⟩ := Q
      rw [q1, if_neg (fun z => z rfl)] at h2
      obtain ⟨E, hE⟩ : ∃ E : Nat, (c.1 a 1).toInt = E := ⟨(c.1 a 1).toInt.toNat, by have := N.2.1.1; omega⟩
      obtain ⟨Wn, hWn⟩ : ∃ Wn : Nat, (c.1 a 0).toInt = Wn := ⟨(c.1 a 0).toInt.toNat, by have := N2.1.2.1; omega⟩
      have hE16 : E ≤ 16 := by have := N.2.1.2; omega
      have hW6 : Wn ≤ 6 := by have := N2.1.2.2; omega
      rw [hE] at Q4 Q6 RR
      have M32 : (dc_wi q.2 82 37 1).1 82 32 = c1.1 x 0 := by rw [wi_k (by omega)]; exact g32
      obtain ⟨B, b1, b2, b3, b4⟩ := lrr_19 (n := n) (by rw [M32]; exact g0) n2 h2
      have bq : ∀ b k, ¬ (b = 82 ∧ k = 37) → b ≠ 101 → B.1 b k = q.2.1 b k := fun b k h h' => by rw [b1 b k h', wi_k h]
      have bm : ∀ b k, ¬ (b = 82 ∧ (k = 32 ∨ k = 33 ∨ k = 37)) → ¬ (99 ≤ b ∧ b ≤ 102) → B.1 b k = m.1 b k := fun b k h h' => by rw [bq b k (by omega) (by omega)]; exact fM.1 b k h h'
      have B100 : B.1 100 = q.2.1 100 := funext (fun k => bq 100 k (by omega) (by decide))
      have ca : ∀ i k, i ≤ 10 → c1.1 (a + i) k = c.1 (a + i) k := fun i k hi => fC.1 _ _ (by omega)
      have caf : ∀ i, i ≤ 10 → c1.1 (a + i) = c.1 (a + i) := fun i hi => funext (fun k => ca i k hi)
      have W85 : ∀ k, k < E → c.1 (a + 3) k = B.1 85 k := fun k hk => by rw [bm 85 k (by omega) (by omega)]; exact (N2.2 k (by omega)).1
      have R86 : ∀ k, k < E → c.1 (a + 4) k = B.1 86 k := fun k hk => by rw [bm 86 k (by omega) (by omega)]; exact (N2.2 k (by omega)).2.1
      have wr : ∀ k, k < E → 0 ≤ (c.1 (a + 3) k).toInt ∧ (c.1 (a + 3) k).toInt < Wn := fun k hk => by have := (N2.2 k (by omega)).2.2.1; omega
      have tree : ∀ t, 0 < t → t < n → ∃ i k, i < t ∧ ED (B.1 100) n E i k t ∧ c1.1 (x + 3) t = c1.1 (x + 3) i ^^^ ((1 : Int32) <<< (c.1 (a + 3) k &&& 31)) := fun t t0 t1 => by
        obtain ⟨i, k, r1, r2, r3, r4, r5⟩ := Q6 t t0 t1
        exact ⟨i, k, r1, ⟨by omega, by omega, t1, by rw [B100]; exact r4⟩, r5⟩
      have G : LG B n E := by
        refine ⟨⟨n2, n1⟩, ?_, ?_, hE16, fun k hk => ?_, fun i k hi hk => ?_, fun t t0 t1 => ?_⟩
        · rw [bq 82 32 (by omega) (by decide), g32]; exact g0
        · rw [bm 82 3 (by omega) (by omega), ← N.1]; exact hE
        · rw [← R86 k hk]; exact (N2.2 k (by omega)).2.2.2
        · rw [B100]
          rcases Q4 i k hi (by omega) (by unfold dn; omega) with r | ⟨t, r1, r2, -⟩
          · exact Or.inl r
          · exact Or.inr ⟨t, r1, r2⟩
        · obtain ⟨i, k, r1, r2, -⟩ := tree t t0 t1
          exact ⟨i, k, r1, r2⟩
      have B37 : B.1 82 37 = 1 := by rw [b1 82 37 (by decide)]; exact wi_s
      have L := lrr_42 (w0 := 0) (Wn := Wn) G (by rw [bm 82 0 (by omega) (by omega), ← N2.1.1]; exact hWn) hW6 rfl (Nat.zero_le _) (fun _ _ _ _ _ => rfl) rfl B37 (fun w hw => absurd hw (Nat.not_lt_zero w)) (fun i j hi _ _ => by rw [b3 i hi, b32_0]) b4
      obtain ⟨L1, L2, L3, L4⟩ := L
      -- the class tells levels
      unfold d_X7_explore_b68 d_X7_explore_b80 at hb
      have c10 : (c1.1 x 1).toInt = 0 := by rw [g1]; rfl
      rw [if_pos c10, if_neg (fun z => z c10)] at hb
      have K : KG x a c1 (B.1 100) n E := by
        refine ⟨g0, n2, by rw [show c1.1 a 1 = c.1 a 1 from ca 0 1 (by omega)]; exact hE, hE16, fun k hk => by rw [ca 3 k (by omega)]; have := wr k hk; omega, fun i k hi hk => ?_, fun i k hi hk => ?_⟩
        · rw [B100, (RR.1 i hi).1 k (by omega), decide_eq_true (show (k : Int) < (E : Int) by omega), Bool.true_and, decide_eq_true_iff]
        · rw [B100]
          exact Q4 i k hi (by omega) (by unfold dn; omega)
      -- a way's levels
      have d0 : ∀ w, b32 (c1.1 (x + 3) 0) w = false := fun w => by rw [Q5, b32_0]
      have dtree : ∀ w, w < 32 → ∀ t, 0 < t → t < n → ∃ i k, i < t ∧ ED (B.1 100) n E i k t ∧ b32 (c1.1 (x + 3) t) w = (b32 (c1.1 (x + 3) i) w ^^ decide ((B.1 85 k).toInt = w)) := fun w hw t t0 t1 => by
        obtain ⟨i, k, r1, r2, r3⟩ := tree t t0 t1
        refine ⟨i, k, r1, r2, ?_⟩
        have := wr k r2.2.1
        rw [r3, b32_xor, b32_1 ⟨this.1, by omega⟩ hw, ← W85 k r2.2.1]
        have e := cl_n this.1
        rw [show decide (w = (c.1 (a + 3) k).toNatClampNeg) = decide ((c.1 (a + 3) k).toInt = (w : Int)) from decide_eq_decide.mpr (by omega)]
      have hi0 : ∀ w, Wn ≤ w → w < 32 → ∀ t, t < n → b32 (c1.1 (x + 3) t) w = false := fun w hw hw32 t => by
        induction t using Nat.strongRecOn with
        | ind t ih =>
          intro ht
          by_cases t0 : t = 0
          · rw [t0]; exact d0 w
          · obtain ⟨i, k, r1, r2, r3⟩ := dtree w hw32 t (by omega) ht
            have := wr k r2.2.1
            rw [r3, ih i r1 (by omega), decide_eq_false (by rw [← W85 k r2.2.1]; omega)]
            rfl
      have FCz : ∀ {Z : dc_M} (v : Int32), Z.2 = c1.2 → (∀ b, b ≠ x + 3 → Z.1 b = c1.1 b) → FC x c (dc_wi Z x 3 v) := fun {Z} v e1 e2 => FC.wi ⟨fun b k hb => by rw [e2 b (by omega)]; exact fC.1 b k hb, e1.trans fC.2⟩ (by omega)
      have FMz : FM m y.2 := ⟨fun b k h h' => by rw [L1 b k (by omega) (by omega) (by omega)]; exact bm b k h h', L2.trans (b2.trans fM.2)⟩
      have y32 : y.2.1 82 32 = c1.1 x 0 := by rw [L1 82 32 (by omega) (by decide) (by decide), bq 82 32 (by omega) (by decide)]; exact g32
      have y33 : y.2.1 82 33 = 1 := by rw [L1 82 33 (by omega) (by decide) (by decide), bq 82 33 (by omega) (by decide)]; exact g33
      have y99 : y.2.1 99 = q.2.1 99 := funext (fun k => by rw [L1 99 k (by omega) (by decide) (by decide), bq 99 k (by omega) (by decide)])
      have y100 : y.2.1 100 = q.2.1 100 := funext (fun k => by rw [L1 100 k (by omega) (by decide) (by decide), bq 100 k (by omega) (by decide)])
      have fin : ∀ {Z : dc_M} (v : Int32), Z.2 = c1.2 → (∀ b, b ≠ x + 3 → Z.1 b = c1.1 b) → v = y.1 → (y.1 = 0 ∨ y.1 = 1) → (y.1 = 1 → ∀ i, i < n → Z.1 (x + 3) i = y.2.1 101 i) → SP x a (dc_wi Z x 3 v) y.2 := fun {Z} v e1 e2 e3 e4 e5 => by
        have zx : ∀ k, k ≠ 3 → (dc_wi Z x 3 v).1 x k = c1.1 x k := fun k hk => by rw [wi_k (by omega), e2 x (by omega)]
        have zo : ∀ i, i ≠ 0 → i ≠ 3 → (dc_wi Z x 3 v).1 (x + i) = c1.1 (x + i) := fun i h h' => by rw [wi_f (by omega), e2 (x + i) (by omega)]
        have za : ∀ i, i ≤ 10 → (dc_wi Z x 3 v).1 (a + i) = c.1 (a + i) := fun i hi => by rw [wi_f (by omega), e2 (a + i) (by omega), caf i hi]
        have za0 : (dc_wi Z x 3 v).1 a = c.1 a := za 0 (by omega)
        refine Or.inl ⟨by rw [zx 1 (by decide)]; exact g1, y33, n, ⟨n1, n2⟩, by rw [zx 0 (by decide)]; exact g0, by rw [zx 0 (by decide)]; exact y32, ?_, by rw [wi_s, L3]; exact e3, by rw [L3]; exact e4, fun h i hi => ?_⟩
        · rw [za0, za 3 (by omega), zo 1 (by decide) (by decide), zo 5 (by decide) (by decide), zo 2 (by decide) (by decide), zo 4 (by decide) (by decide), zx 2 (by decide), y99, y100, hE]
          exact ⟨Q1, fun i k hi hk => Q4 i k hi hk (by unfold dn; omega), RR⟩
        · rw [wi_k (by omega)]
          refine ⟨e5 (by rw [← L3]; exact h) i hi, fun j h6 h32 => ?_⟩
          rcases L4 with ⟨-, -, hz⟩ | ⟨r, -⟩
          · exact hz i j hi (by omega) h32
          · rw [← L3, h] at r
            exact absurd r (by decide)
      cases ht : d_X7_tellLevels x a c1 with
      | none => rw [ht] at hb; cases hb
      | some tt =>
        rw [ht, Option.bind_some] at hb
        rcases tl_run K ht with ⟨t1, t2, t3, kn, v, KBn, t4⟩ | ⟨rfl, KFF⟩
        · -- levels can be told
          rw [t1, if_neg (by decide)] at hb
          cases hb
          obtain ⟨kA, kB, kC, kD⟩ := KBn
          rw [caf 3 (by omega), caf 4 (by omega)] at kC
          rw [caf 3 (by omega)] at kA kB kD
          have all : ∀ i k t, ED (B.1 100) n E i k t → dn n 0 i k := fun i k t ed => by have := ed.1; unfold dn; omega
          -- the class's levels go for all
          have va : ∀ w, w < Wn → VA (B.1 100) (B.1 85) (B.1 86) n E w (b32 v w) (fun i => b32 (c1.1 (x + 3) i) w ^^ b32 v w) := fun w hw => by
            refine ⟨by show (b32 (c1.1 (x + 3) 0) w ^^ b32 v w) = b32 v w; rw [d0, Bool.false_xor], fun i k t ed => ?_⟩
            have wk := wr k ed.2.1
            have wc := cl_n wk.1
            have A := kA i k t ed (all i k t ed)
            have A2 := congrArg (fun q => b32 q w) A
            have A2 : b32 (c1.1 (x + 3) i ^^^ ((1 : Int32) <<< (c.1 (a + 3) k &&& 31))) w = b32 (c1.1 (x + 3) t) w := A2
            rw [b32_xor, b32_1 ⟨wk.1, by omega⟩ (by omega)] at A2
            rw [← W85 k ed.2.1, ← R86 k ed.2.1]
            refine ⟨fun cw => ?_, fun cw => ?_⟩
            · have cw' : (c.1 (a + 3) k).toNatClampNeg = w := by omega
              have Ck := kC i k t ed (all i k t ed)
              unfold hib at Ck
              rw [cw'] at Ck A2
              rw [decide_eq_true rfl] at A2
              show (b32 (c1.1 (x + 3) i) w ^^ b32 v w) = _ ∧ (b32 (c1.1 (x + 3) t) w ^^ b32 v w) = _
              rw [← A2, Ck]
              cases decide (c.1 (a + 4) k = 1) <;> cases b32 (c1.1 (x + 3) i) w <;> decide
            · rw [decide_eq_false (show ¬ w = (c.1 (a + 3) k).toNatClampNeg by omega), Bool.xor_false] at A2
              show (b32 (c1.1 (x + 3) t) w ^^ b32 v w) = (b32 (c1.1 (x + 3) i) w ^^ b32 v w)
              rw [A2]
          have y1 : y.1 = 1 := by
            rcases L4 with ⟨r, -⟩ | ⟨-, w, hw, no⟩
            · exact r
            · exact absurd (va w hw) (no _ _)
          refine ⟨FCz 1 t2 t3, FMz, fin 1 t2 t3 y1.symm (Or.inr y1) (fun _ i hi => ?_), L3.symm⟩
          rw [t4 i hi]
          rcases L4 with ⟨-, ok, hz⟩ | ⟨r, -⟩
          · refine b32_ext (fun j hj => ?_)
            rw [b32_xor]
            by_cases cj : j < Wn
            · obtain ⟨b, l, v1, v2, v3⟩ := ok j cj
              have vt : l i = (b32 (c1.1 (x + 3) i) j ^^ b) := va_tree (d := fun i => b32 (c1.1 (x + 3) i) j) v1 (d0 j) (dtree j hj) i hi
              rw [v3 i hi, vt]
              have hb : b = b32 v j := by
                cases b with
                | true =>
                  cases hv : b32 v j with
                  | true => rfl
                  | false =>
                    have q := va j cj
                    rw [hv] at q
                    exact absurd q (v2 rfl _)
                | false =>
                  cases hv : b32 v j with
                  | false => rfl
                  | true =>
                    obtain ⟨i', k', t', ed, -, e3⟩ := kD j hj hv
                    have wk := wr k' ed.2.1
                    have wc := cl_n wk.1
                    have q1 := (v1.2 i' k' t' ed).1 (by rw [← W85 k' ed.2.1]; omega)
                    have q2 : l i' = (b32 (c1.1 (x + 3) i') j ^^ false) := va_tree (d := fun i => b32 (c1.1 (x + 3) i) j) v1 (d0 j) (dtree j hj) i' ed.1
                    have q3 := kC i' k' t' ed (all i' k' t' ed)
                    unfold hib at q3
                    rw [e3, hv] at q3
                    rw [← R86 k' ed.2.1] at q1
                    rw [q1.1] at q2
                    revert q2 q3
                    cases decide (c.1 (a + 4) k' = 1) <;> cases b32 (c1.1 (x + 3) i') j <;> decide
              rw [hb]
            · rw [hz i j hi (by omega) hj, hi0 j (by omega) hj i hi]
              cases hv : b32 v j with
              | false => rfl
              | true =>
                obtain ⟨i', k', t', ed, -, e3⟩ := kD j hj hv
                have wk := wr k' ed.2.1
                have wc := cl_n wk.1
                omega
          · rw [y1] at r
            exact absurd r (by decide)
        · -- levels can't be told
          rw [if_pos (show ((0, c1) : Int32 × dc_M).1.toInt = 0 from rfl)] at hb
          cases hb
          unfold KF at KFF
          rw [caf 3 (by omega), caf 4 (by omega)] at KFF
          have y0 : y.1 = 0 := by
            rcases L4 with ⟨-, ok, -⟩ | ⟨r, -⟩
            · exfalso
              rcases KFF with ⟨i, k, t, ed, ne⟩ | ⟨i, k, t, i', k', t', ed, ed', ww, ne⟩
              · refine ne (b32_ext (fun j hj => ?_))
                have wk := wr k ed.2.1
                have wc := cl_n wk.1
                rw [b32_xor, b32_1 ⟨wk.1, by omega⟩ hj]
                by_cases cj : j < Wn
                · obtain ⟨b, l, v1, -, -⟩ := ok j cj
                  have q1 : l i = (b32 (c1.1 (x + 3) i) j ^^ b) := va_tree (d := fun i => b32 (c1.1 (x + 3) i) j) v1 (d0 j) (dtree j hj) i ed.1
                  have q2 : l t = (b32 (c1.1 (x + 3) t) j ^^ b) := va_tree (d := fun i => b32 (c1.1 (x + 3) i) j) v1 (d0 j) (dtree j hj) t ed.2.2.1
                  obtain ⟨e1, e2⟩ := v1.2 i k t ed
                  rw [← W85 k ed.2.1] at e1 e2
                  by_cases cw : (c.1 (a + 3) k).toInt = j
                  · obtain ⟨e3, e4⟩ := e1 cw
                    rw [decide_eq_true (show j = (c.1 (a + 3) k).toNatClampNeg by omega)]
                    rw [e3] at q1
                    rw [e4] at q2
                    revert q1 q2
                    cases decide (B.1 86 k = 1) <;> cases b32 (c1.1 (x + 3) i) j <;> cases b32 (c1.1 (x + 3) t) j <;> cases b <;> decide
                  · rw [decide_eq_false (show ¬ j = (c.1 (a + 3) k).toNatClampNeg by omega), Bool.xor_false]
                    have e3 := e2 cw
                    rw [q1, q2] at e3
                    revert e3
                    cases b32 (c1.1 (x + 3) i) j <;> cases b32 (c1.1 (x + 3) t) j <;> cases b <;> decide
                · rw [hi0 j (by omega) hj i ed.1, hi0 j (by omega) hj t ed.2.2.1, decide_eq_false (by omega)]
                  rfl
              · have wk := wr k ed.2.1
                have wc := cl_n wk.1
                have wlt : (c.1 (a + 3) k).toNatClampNeg < Wn := by omega
                obtain ⟨b, l, v1, -, -⟩ := ok _ wlt
                refine ne ?_
                have q1 : l i = (b32 (c1.1 (x + 3) i) (c.1 (a + 3) k).toNatClampNeg ^^ b) := va_tree (d := fun i => b32 (c1.1 (x + 3) i) (c.1 (a + 3) k).toNatClampNeg) v1 (d0 _) (dtree _ (by omega)) i ed.1
                have q2 : l i' = (b32 (c1.1 (x + 3) i') (c.1 (a + 3) k).toNatClampNeg ^^ b) := va_tree (d := fun i => b32 (c1.1 (x + 3) i) (c.1 (a + 3) k).toNatClampNeg) v1 (d0 _) (dtree _ (by omega)) i' ed'.1
                have e1 := ((v1.2 i k t ed).1 (by rw [← W85 k ed.2.1]; omega)).1
                have e2 := ((v1.2 i' k' t' ed').1 (by rw [← W85 k' ed'.2.1, ← ww]; omega)).1
                rw [e1, ← R86 k ed.2.1] at q1
                rw [e2, ← R86 k' ed'.2.1] at q2
                unfold hib
                rw [← ww]
                revert q1 q2
                cases decide (c.1 (a + 4) k = 1) <;> cases decide (c.1 (a + 4) k' = 1) <;> cases b32 (c1.1 (x + 3) i) (c.1 (a + 3) k).toNatClampNeg <;> cases b32 (c1.1 (x + 3) i') (c.1 (a + 3) k).toNatClampNeg <;> cases b <;> decide
            · exact r
          exact ⟨FCz 0 rfl (fun _ _ => rfl), FMz, fin 0 rfl (fun _ _ => rfl) y0.symm (Or.inl y0) (fun h => by rw [y0] at h; exact absurd h (by decide)), L3.symm⟩
    · -- no states
      obtain ⟨f1, f2, f3, ⟨f4, f5⟩, fC, fM⟩ := F
      have v1 : ¬ q.1.toInt = 1 := by
        rw [q1]
        rcases f2 with r | r <;> rw [r] <;> decide
      rw [if_pos v1] at h2
      have cv : ¬ (c1.1 x 1).toInt = 0 := by
        rw [f1]
        rcases f2 with r | r <;> rw [r] <;> decide
      unfold d_X7_explore_b68 d_X7_explore_b80 at hb
      have cv2 : ¬ ((dc_wi c1 x 0 0).1 x 1).toInt = 0 := by rw [wi_k (by omega)]; exact cv
      rw [if_neg cv, if_pos cv2] at hb
      cases hb
      obtain ⟨B, b1, b2, b3, b4⟩ := lrr_19 (n := (q.2.1 82 32).toInt.toNat) (by rw [wi_k (by omega)]; omega) (by omega) h2
      have B37 : B.1 82 37 = 0 := by rw [b1 82 37 (by decide)]; exact wi_s
      unfold d_X10_layRight_l42 at b4
      rw [dc_lp_eq] at b4
      have b40 : d_X10_layRight_l42s 82 (0, B) = d_X10_layRight_l42b 82 0 B := rfl
      rw [b40] at b4
      unfold d_X10_layRight_l42b at b4
      rw [B37, if_pos (show (0 : Int32).toInt = 0 by decide), ite_self] at b4
      cases b4
      refine ⟨(fC.wi (by omega)).wi (by omega), ⟨fun b k h h' => ?_, b2.trans fM.2⟩, Or.inr ⟨v, ?_, f2, ?_, ?_, wi_s, B37⟩, B37.symm⟩
      · show B.1 b k = _
        rw [b1 b k (by omega), wi_k (by omega)]
        exact fM.1 b k h h'
      · rw [wi_k (by omega), wi_k (by omega)]; exact f1
      · show B.1 82 33 = v
        rw [b1 82 33 (by decide), wi_k (by omega)]; exact f3
      · rw [wi_k (by omega)]; exact wi_s
