theorem RN.p9 {x1 x2 : Int32} {c m c' m' : dc_M} {v v' : Int32} (len : (c.2.2.2 10).2 = 512) (hr : ∀ k, k < 16 → 0 ≤ (m.1 86 k).toInt ∧ (m.1 86 k).toInt ≤ 1) (R : RN c m) (f : d_X9_of 1 x1 x2 c = some (v, c')) (g : d_X10_of 82 x1 x2 m = some (v', m')) : v = v' ∧ RN c' m' := by
  refine ⟨?_, R.cpk (cp_X9_of (CP.of R len) f) (kr_X10_of kr_of g)⟩
  have ha := md41 R.1.2.2
  unfold d_X9_of at f
  unfold d_X10_of at g
  cases hq : d_X9_explore 1 c with
  | none => rw [hq] at f; cases f
  | some q =>
    cases hy : d_X10_layRight 82 m with
    | none => rw [hy] at g; cases g
    | some y =>
      rw [hq, Option.bind_some, show 1 + 3 = 4 from rfl] at f
      rw [hy, Option.bind_some] at g
      obtain ⟨k1, k2, k3, k4⟩ := ck_ex ha rfl len R.2.2 hq
      have a7 : q.2.2.1 1 7 = c.2.2.1 1 7 := by rw [k4]
      have N : NR (c.2.2.1 1 7) q m := NR.eq R.2.1 (fun i hi => funext (fun k => k3 _ k (by omega) (by omega))) (fun _ _ => rfl) (fun _ _ _ => rfl)
      obtain ⟨S, -, -⟩ := ck_sp ha a7 k1 k2 N hr hy
      have K : kr m y.2 := kr_X10_layRight kr_of hy
      rw [a7] at f
      have z3 : y.2.1 82 3 = m.1 82 3 := K 82 3 (by unfold krc; omega)
      have z85 : y.2.1 85 = m.1 85 := funext (fun k => K 85 k (by unfold krc; omega))
      obtain ⟨-, ⟨e1, ⟨e2, e3⟩, e4⟩, -⟩ := N
      rcases S with ⟨s1, s2, n, ⟨n1, n2⟩, s3, s4, ⟨q1, q2, q3, -⟩, s5, s6, s7⟩ | ⟨w, s1, s2, s3, s4, s5, s6⟩
      · obtain ⟨E, hE⟩ : ∃ E : Nat, (q.1 (c.2.2.1 1 7) 1).toInt = E := ⟨((q.1 (c.2.2.1 1 7) 1).toInt).toNat, by omega⟩
        rw [hE] at e2 e3 e4 q2 q3
        have hZ : (y.2.1 82 3).toInt = E := by rw [z3, ← e1]; exact hE
        rw [if_neg (show ¬ ¬ (y.2.1 82 33).toInt = 1 by rw [s2]; exact fun r => r rfl)] at g
        have I1 : (d_X10_in (Int32.toInt64 x1) (0 : Int64) (Int32.toInt64 (y.2.1 82 32 - 1)) y.2).toInt = 0 ↔ ¬ (0 ≤ x1.toInt ∧ x1.toInt < n) := by
          have p : (y.2.1 82 32 - 1).toInt = n - 1 := by rw [s4, Int32.toInt_sub, s3, show (1 : Int32).toInt = 1 from rfl, sx_bm (by omega) (by omega)]
          rw [di_in, di_ine, di_il, di_il, p, show (0 : Int64).toInt = 0 from rfl]
          omega
        have I2 : (d_X10_in (Int32.toInt64 x2) (0 : Int64) (4 : Int64) y.2).toInt = 0 ↔ ¬ (0 ≤ x2.toInt ∧ x2.toInt ≤ 4) := by
          rw [di_in, di_ine, di_il, show (0 : Int64).toInt = 0 from rfl, show (4 : Int64).toInt = 4 from rfl]
        have I4 : (d_X10_in (Int32.toInt64 x2) (2 : Int64) (4 : Int64) y.2).toInt = 0 ↔ ¬ (2 ≤ x2.toInt ∧ x2.toInt ≤ 4) := by
          rw [di_in, di_ine, di_il, show (2 : Int64).toInt = 2 from rfl, show (4 : Int64).toInt = 4 from rfl]
        have I3 : (d_X10_in (Int32.toInt64 x2) (10 : Int64) (Int32.toInt64 (9 + y.2.1 82 3)) y.2).toInt = 0 ↔ ¬ (10 ≤ x2.toInt ∧ x2.toInt ≤ 9 + E) := by
          have p : (9 + y.2.1 82 3).toInt = 9 + E := by rw [Int32.toInt_add, hZ, show (9 : Int32).toInt = 9 from rfl, sx_bm (by omega) (by omega)]
          rw [di_in, di_ine, di_il, di_il, p, show (10 : Int64).toInt = 10 from rfl]
        by_cases c1 : 0 ≤ x1.toInt ∧ x1.toInt < n
        · rw [if_neg (fun r => I1.mp r c1)] at g
          obtain ⟨c1, c1'⟩ := c1
          obtain ⟨i, hi⟩ : ∃ i : Nat, x1.toInt = i := ⟨x1.toInt.toNat, by omega⟩
          have hn : x1.toNatClampNeg = i := by have := cl_n c1; omega
          rw [if_neg (by omega), if_pos (by rw [s3]; exact c1')] at f
          obtain ⟨r1, r2⟩ := q3 i (by omega)
          have rd : ∀ u, d_X10_readyIn 82 x1 y.2 = some u → q.1 (4 + 2) i = u := fun u hu => b32_ext (fun k hk => by rw [r1 k hk, ri_run hi (by omega) hZ (by omega) hu k hk])
          have ec : ∀ u, d_X10_excited 82 x1 y.2 = some u → q.1 (4 + 4) i = u := fun u hu => b32_ext (fun b hb => by
            rw [Bool.eq_iff_iff, r2 b hb, ei_run hi (by omega) hZ (by omega) hu b hb]
            constructor
            · rintro ⟨k, g1, g2, g3⟩
              exact ⟨k, g1, g2, by rw [z85, ← (e4 k g1).1]; exact g3⟩
            · rintro ⟨k, g1, g2, g3⟩
              exact ⟨k, g1, g2, by rw [(e4 k g1).1, ← z85]; exact g3⟩)
          by_cases c2 : x2.toInt < 10
          · rw [if_pos c2] at f
            by_cases c3 : 0 ≤ x2.toInt ∧ x2.toInt ≤ 4
            · rw [if_neg (by omega), if_pos c3.2] at f
              rw [if_pos (fun r => I2.mp r c3)] at g
              unfold d_X10_of_b62 d_X10_of_b86 at g
              by_cases d0 : x2.toInt = 0
              · rw [if_neg (fun r => r d0), hn] at f
                rw [if_pos (I4.mpr (by omega)), if_neg (fun r => r d0), hn] at g
                cases f
                cases g
                exact q1 i (by omega)
              · rw [if_pos d0] at f
                by_cases d1 : x2.toInt = 1
                · rw [if_neg (fun r => r d1), hn] at f
                  rw [if_pos (I4.mpr (by omega)), if_pos d0, if_neg (fun r => r d1)] at g
                  cases hu : d_X10_readyIn 82 x1 y.2 with
                  | none => rw [hu] at g; cases g
                  | some u =>
                    rw [hu, Option.bind_some] at g
                    cases f
                    cases g
                    exact rd _ hu
                · rw [if_pos d1] at f
                  rw [if_neg (fun r => I4.mp r (by omega))] at g
                  by_cases h37 : y.2.1 82 37 = 0
                  · rw [if_neg (by rw [s5, h37]; exact fun r => r rfl)] at f
                    rw [if_neg (by rw [h37]; exact fun r => r rfl)] at g
                    cases f
                    cases g
                    rfl
                  · have h1 := s6.resolve_left h37
                    rw [if_pos (by rw [s5, h1]; decide)] at f
                    rw [if_pos (by rw [h1]; decide), if_pos d0, if_pos d1] at g
                    by_cases d2 : x2.toInt = 2
                    · rw [if_neg (fun r => r d2), hn] at f g
                      cases f
                      cases g
                      exact (s7 h1 i (by omega)).1
                    · rw [if_pos d2] at f g
                      cases hu : d_X10_excited 82 x1 y.2 with
                      | none =>
                        by_cases d3 : x2.toInt = 3
                        · rw [if_neg (fun r => r d3), hu] at g
                          cases g
                        · rw [if_pos d3, if_neg (fun r => r (by omega))] at g
                          unfold d_X10_aims at g
                          rw [hu] at g
                          cases g
                      | some u =>
                        by_cases d3 : x2.toInt = 3
                        · rw [if_neg (fun r => r d3), hn] at f
                          rw [if_neg (fun r => r d3), hu, Option.bind_some] at g
                          cases f
                          cases g
                          exact ec _ hu
                        · rw [if_pos d3] at f
                          rw [if_pos d3, if_neg (fun r => r (by omega))] at g
                          unfold d_X10_aims at g
                          unfold d_X7_aims at f
                          rw [hu, Option.bind_some, Option.bind_some, hn] at g
                          rw [hn] at f
                          cases f
                          cases g
                          show c'.1 (4 + 3) i ^^^ c'.1 (4 + 4) i = y.2.1 101 i ^^^ u
                          rw [ec _ hu, (s7 h1 i (by omega)).1]
            · rw [if_neg (fun r => r (I2.mpr c3)), if_neg (fun r => r (I3.mpr (by omega)))] at g
              cases g
              by_cases d : x2.toInt < 0
              · rw [if_pos d] at f
                cases f
                rfl
              · rw [if_neg d, if_neg (by omega)] at f
                cases f
                rfl
          · rw [if_neg c2] at f
            rw [if_neg (fun r => r (I2.mpr (by omega)))] at g
            have xt := Int32.toInt_lt x2
            have xs : (x2 - 10).toInt = x2.toInt - 10 := by rw [Int32.toInt_sub, show (10 : Int32).toInt = 10 from rfl, sx_bm (by omega) (by omega)]
            have HE : (d_X3_hasEvent (c.2.2.1 1 7) (x2 - 10) q).toInt = 0 ↔ ¬ (x2.toInt - 10 < E) := by
              unfold d_X3_hasEvent
              rw [xs, hE, if_neg (by omega)]
              by_cases c4 : (E : Int) ≤ x2.toInt - 10
              · rw [if_pos c4]
                exact ⟨fun _ => by omega, fun _ => rfl⟩
              · rw [if_neg c4]
                exact ⟨fun r => absurd r (by decide), fun r => by omega⟩
            by_cases c4 : x2.toInt - 10 < E
            · rw [if_neg (fun r => HE.mp r c4)] at f
              rw [if_pos (fun r => I3.mp r (by omega))] at g
              unfold d_X10_of_b62 d_X10_of_b86 at g
              rw [if_pos (I4.mpr (by omega)), if_pos (by omega), if_pos (by omega), if_pos (by omega), if_pos (by omega), if_pos (by omega)] at g
              obtain ⟨k, hk⟩ : ∃ k : Nat, (x2 - 10).toInt = k := ⟨(x2.toInt - 10).toNat, by omega⟩
              have kn : (x2 - 10).toNatClampNeg = k := by have := cl_n (x := x2 - 10) (by omega); omega
              have ie : (16 : Int32) * x1 + x2 - 10 = 16 * x1 + (x2 - 10) := by rw [Int32.sub_eq_add_neg, Int32.sub_eq_add_neg, Int32.add_assoc]
              rw [ie, ix_2 hi (by omega) hk (by omega)] at g
              unfold d_X7_behind at f
              rw [ix_1 hi (by omega) hk (by omega), hn] at f
              have bt := b32_t (x := q.1 (4 + 2) i) (e := x2 - 10) ⟨by omega, by omega⟩
              rw [kn, r1 k (by omega), decide_eq_true (show (k : Int) < E by omega), Bool.true_and] at bt
              by_cases c5 : y.2.1 100 (16 * i + k) = -4
              · rw [if_pos (bt.mpr (decide_eq_false (fun r => r c5)))] at f
                cases f
                cases g
                exact c5.symm
              · rw [if_neg (fun r => by have := bt.mp r; rw [decide_eq_true c5] at this; cases this)] at f
                cases f
                cases g
                rcases q2 i k (by omega) (by omega) with r | ⟨t, -, t1, t2⟩
                · exact absurd r c5
                · show c'.1 (4 + 5) (16 * i + k) = y.2.1 100 (16 * i + k)
                  rw [t1, t2]
            · rw [if_pos (HE.mpr c4)] at f
              rw [if_neg (fun r => r (I3.mpr (by omega)))] at g
              cases f
              cases g
              rfl
        · rw [if_pos (I1.mpr c1)] at g
          cases g
          by_cases d : x1.toInt < 0
          · rw [if_pos d] at f
            cases f
            rfl
          · rw [if_neg d, if_neg (by rw [s3]; omega)] at f
            cases f
            rfl
      · rw [if_pos (show ¬ (y.2.1 82 33).toInt = 1 by rw [s3]; rcases s2 with r | r <;> rw [r] <;> decide)] at g
        cases g
        by_cases d : x1.toInt < 0
        · rw [if_pos d] at f
          cases f
          rfl
        · rw [if_neg d, if_neg (by rw [s4]; exact d)] at f
          cases f
          rfl
