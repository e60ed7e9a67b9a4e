/-! ===== methods as functions (written by a program) ===== -/
noncomputable def C_X1_gatherPrimes : List (Nat × dc_H) := [(8, H_X1_isPrime), (9, H_X1_weighLevels), (99, H_X8_lettersOf), (98, H_X8_levelsIn)]
theorem CO_X1_gatherPrimes {u : Nat} : dc_CO u C_X1_gatherPrimes := dc_CO_cons H_X1_isPrime_ok (dc_CO_cons H_X1_weighLevels_ok (dc_CO_cons H_X8_lettersOf_ok (dc_CO_cons H_X8_levelsIn_ok (dc_CO_nil))))
def S_X1_gatherPrimes : List (Nat × List Nat) := [(8, [0, 1, 3, 5, 6, 7]), (121, [0, 1])]
noncomputable def d_X1_gatherPrimes_b121 (x0 : Nat) (x1 : Int64) (m : dc_M) : Option dc_M :=
  ((d_X1_weighLevels x0 x1 m).bind (fun q1 => some (q1)))
set_option maxHeartbeats 8000000 in
theorem k_X1_gatherPrimes_b121 {u : Nat} {N : Nat} {Φ : (Option dc_M) → Option Value → dc_M → Prop} (x0 : Nat) (x1 : Int64) (m : dc_M) (kR : ∀  (m : dc_M), Φ (some (m)) (none) m)  {lv : ab_L} (f0 : ab_lk lv 0 = some (.ref x0)) (f1 : ab_lk lv 1 = some (.long x1)) : dc_pv u N ab_M_X1_gatherPrimes 121 lv [] m (Φ (d_X1_gatherPrimes_b121 x0 x1 m)) := by
  refine dc_pv.mono (dc_ok (C := C_X1_gatherPrimes) (S := S_X1_gatherPrimes) CO_X1_gatherPrimes 400 121 [(0, .ref x0), (1, .long x1)] lv [] m (dc_sub_cons f0 (dc_sub_cons f1 (dc_sub_nil))) ?_) (Nat.le_succ N)
  unfold d_X1_gatherPrimes_b121
  refine dg_s (pc' := 122) [.ref x0] rfl (fun _ => rfl) rfl ?_
  refine dg_s (pc' := 123) [.long x1, .ref x0] rfl (fun _ => rfl) rfl ?_
  refine dw_b (fun t => Φ t) (pc' := 126) (fun q1 => []) (fun q1 => q1) rfl (fun _ => rfl) (fun q1 => ?_)
  refine dw_g rfl ?_
  exact dw_r (some (.inl (none, q1))) rfl (fun _ => rfl) (kR _)
noncomputable def d_X1_gatherPrimes_l8b (x0 : Nat) (x1 : Int64) (x3 : Int64) (x5 : Int32) (x6 : Int32) (x7 : Int32) (m : dc_M) : Option ((Int32 × dc_M) ⊕ dc_M) :=
  (if (Int32.toInt x6) ≤ (Int32.toInt x7) then ((d_X1_gatherPrimes_b121 x0 x1 m).map (fun z => Sum.inr (z))) else (if 729 ≤ (Int32.toInt x7) then ((d_X1_gatherPrimes_b121 x0 x1 m).map (fun z => Sum.inr (z))) else ((d_X8_levelsIn x7 x5 m).bind (fun q1 => (if ¬ (Int32.toInt (lg_cmp (q1 &&& x3) (0 : Int64))) = 0 then some (Sum.inl ((x7 + (1 : Int32)), m)) else (if (Int32.toInt (lg_cmp (q1 &&& x1) (0 : Int64))) = 0 then some (Sum.inl ((x7 + (1 : Int32)), m)) else ((d_X1_isPrime x7 q1 x3 x5 m).bind (fun q2 => (if (Int32.toInt q2) = 0 then some (Sum.inl ((x7 + (1 : Int32)), m)) else ((d_X8_lettersOf x7 x5 (dc_wi m (x0 + 2) (Int32.toNatClampNeg (m.1 x0 1)) x7)).bind (fun q3 => some (Sum.inl ((x7 + (1 : Int32)), (dc_wi (dc_wl (dc_wi (dc_wi m (x0 + 2) (Int32.toNatClampNeg (m.1 x0 1)) x7) (x0 + 3) (Int32.toNatClampNeg ((dc_wi m (x0 + 2) (Int32.toNatClampNeg (m.1 x0 1)) x7).1 x0 1)) ((256 : Int32) + q3)) (x0 + 4) (Int32.toNatClampNeg ((dc_wi (dc_wi m (x0 + 2) (Int32.toNatClampNeg (m.1 x0 1)) x7) (x0 + 3) (Int32.toNatClampNeg ((dc_wi m (x0 + 2) (Int32.toNatClampNeg (m.1 x0 1)) x7).1 x0 1)) ((256 : Int32) + q3)).1 x0 1)) q1) x0 1 (((dc_wl (dc_wi (dc_wi m (x0 + 2) (Int32.toNatClampNeg (m.1 x0 1)) x7) (x0 + 3) (Int32.toNatClampNeg ((dc_wi m (x0 + 2) (Int32.toNatClampNeg (m.1 x0 1)) x7).1 x0 1)) ((256 : Int32) + q3)) (x0 + 4) (Int32.toNatClampNeg ((dc_wi (dc_wi m (x0 + 2) (Int32.toNatClampNeg (m.1 x0 1)) x7) (x0 + 3) (Int32.toNatClampNeg ((dc_wi m (x0 + 2) (Int32.toNatClampNeg (m.1 x0 1)) x7).1 x0 1)) ((256 : Int32) + q3)).1 x0 1)) q1).1 x0 1) + (1 : Int32))))))))))))))))
noncomputable def d_X1_gatherPrimes_l8s (x0 : Nat) (x1 : Int64) (x3 : Int64) (x5 : Int32) (x6 : Int32) : (Int32 × dc_M) → Option ((Int32 × dc_M) ⊕ dc_M) := fun s => d_X1_gatherPrimes_l8b x0 x1 x3 x5 x6 s.1 s.2
noncomputable def d_X1_gatherPrimes_l8 (x0 : Nat) (x1 : Int64) (x3 : Int64) (x5 : Int32) (x6 : Int32) (x7 : Int32) (m : dc_M) : Option dc_M := dc_lp (d_X1_gatherPrimes_l8s x0 x1 x3 x5 x6) (x7, m)
set_option maxHeartbeats 8000000 in
theorem k_X1_gatherPrimes_l8 {u : Nat} {Φ : (Option dc_M) → Option Value → dc_M → Prop} (x0 : Nat) (x1 : Int64) (x3 : Int64) (x5 : Int32) (x6 : Int32) (kR : ∀  (m : dc_M), Φ (some (m)) (none) m) : ∀ (N : Nat), ∀ (x7 : Int32) (m : dc_M) (lv : ab_L), ab_lk lv 0 = some (.ref x0) → ab_lk lv 1 = some (.long x1) → ab_lk lv 3 = some (.long x3) → ab_lk lv 5 = some (.int x5) → ab_lk lv 6 = some (.int x6) → ab_lk lv 7 = some (.int x7) → dc_pv u N ab_M_X1_gatherPrimes 8 lv [] m (Φ (d_X1_gatherPrimes_l8 x0 x1 x3 x5 x6 x7 m)) := by
  intro N
  induction N with
  | zero => intros; exact dc_pv_zero
  | succ N ih =>
    intro x7 m lv f0 f1 f3 f5 f6 f7
    refine dc_ok (C := C_X1_gatherPrimes) (S := S_X1_gatherPrimes) CO_X1_gatherPrimes 400 8 [(0, .ref x0), (1, .long x1), (3, .long x3), (5, .int x5), (6, .int x6), (7, .int x7)] lv [] m (dc_sub_cons f0 (dc_sub_cons f1 (dc_sub_cons f3 (dc_sub_cons f5 (dc_sub_cons f6 (dc_sub_cons f7 (dc_sub_nil))))))) ?_
    unfold d_X1_gatherPrimes_l8
    rw [dc_lp_eq]
    show (fun t x => dc_lf u N ab_M_X1_gatherPrimes (Φ (Option.bind t (dc_bk (d_X1_gatherPrimes_l8s x0 x1 x3 x5 x6)))) x) (d_X1_gatherPrimes_l8b x0 x1 x3 x5 x6 x7 m) _
    dsimp only
    unfold d_X1_gatherPrimes_l8b
    refine dg_s (pc' := 10) [.int x7] rfl (fun _ => rfl) rfl ?_
    refine dg_s (pc' := 12) [.int x6, .int x7] rfl (fun _ => rfl) rfl ?_
    refine dw_if (fun t => Φ (Option.bind t (dc_bk (d_X1_gatherPrimes_l8s x0 x1 x3 x5 x6)))) ((Int32.toInt x6) ≤ (Int32.toInt x7)) [] 121 15 rfl (fun _ => rfl) (fun c0 => ?_) (fun c0 => ?_)
    · exact dw_j rfl (fun lv1 hv => k_X1_gatherPrimes_b121 (Φ := (fun t => Φ (Option.bind (t.map (fun z => Sum.inr (z))) (dc_bk (d_X1_gatherPrimes_l8s x0 x1 x3 x5 x6))))) x0 x1 m (fun _b => kR _b)  (hv.1 _ rfl) (hv.2.1 _ rfl))
    · refine dw_g rfl ?_
      refine dg_s (pc' := 17) [.int x7] rfl (fun _ => rfl) rfl ?_
      refine dg_s (pc' := 20) [.int (729 : Int32), .int x7] rfl (fun _ => rfl) rfl ?_
      refine dw_if (fun t => Φ (Option.bind t (dc_bk (d_X1_gatherPrimes_l8s x0 x1 x3 x5 x6)))) (729 ≤ (Int32.toInt x7)) [] 121 23 rfl (fun _ => rfl) (fun c1 => ?_) (fun c1 => ?_)
      · exact dw_j rfl (fun lv1 hv => k_X1_gatherPrimes_b121 (Φ := (fun t => Φ (Option.bind (t.map (fun z => Sum.inr (z))) (dc_bk (d_X1_gatherPrimes_l8s x0 x1 x3 x5 x6))))) x0 x1 m (fun _b => kR _b)  (hv.1 _ rfl) (hv.2.1 _ rfl))
      · refine dw_g rfl ?_
        refine dg_s (pc' := 25) [.int x7] rfl (fun _ => rfl) rfl ?_
        refine dg_s (pc' := 27) [.int x5, .int x7] rfl (fun _ => rfl) rfl ?_
        refine dw_b (fun t => Φ (Option.bind t (dc_bk (d_X1_gatherPrimes_l8s x0 x1 x3 x5 x6)))) (pc' := 30) (fun q1 => [.long q1]) (fun q1 => m) rfl (fun _ => rfl) (fun q1 => ?_)
        refine dw_g rfl ?_
        refine dg_L (pc' := 32) [(8, .long q1), (0, .ref x0), (1, .long x1), (3, .long x3), (5, .int x5), (6, .int x6), (7, .int x7)] [] rfl (fun _ => rfl) rfl ?_
        refine dg_s (pc' := 34) [.long q1] rfl (fun _ => rfl) rfl ?_
        refine dg_s (pc' := 35) [.long x3, .long q1] rfl (fun _ => rfl) rfl ?_
        refine dg_s (pc' := 36) [.long (q1 &&& x3)] rfl (fun _ => rfl) rfl ?_
        refine dg_s (pc' := 37) [.long (0 : Int64), .long (q1 &&& x3)] rfl (fun _ => rfl) rfl ?_
        refine dg_s (pc' := 38) [.int (lg_cmp (q1 &&& x3) (0 : Int64))] rfl (fun _ => rfl) rfl ?_
        refine dw_if (fun t => Φ (Option.bind t (dc_bk (d_X1_gatherPrimes_l8s x0 x1 x3 x5 x6)))) (¬ (Int32.toInt (lg_cmp (q1 &&& x3) (0 : Int64))) = 0) [] 115 41 rfl (fun _ => rfl) (fun c2 => ?_) (fun c2 => ?_)
        · refine dw_g rfl ?_
          refine dg_L (pc' := 118) [(7, .int (x7 + (1 : Int32))), (8, .long q1), (0, .ref x0), (1, .long x1), (3, .long x3), (5, .int x5), (6, .int x6)] [] rfl (fun _ => rfl) rfl ?_
          refine dw_s (pc' := 8) [] rfl (fun _ => rfl) ?_
          exact dw_j rfl (fun lv1 hv => ih (x7 + (1 : Int32)) m lv1 (hv.1 _ rfl) (hv.2.1 _ rfl) (hv.2.2.1 _ rfl) (hv.2.2.2.1 _ rfl) (hv.2.2.2.2.1 _ rfl) (hv.2.2.2.2.2.1 _ rfl))
        · refine dw_g rfl ?_
          refine dg_s (pc' := 43) [.long q1] rfl (fun _ => rfl) rfl ?_
          refine dg_s (pc' := 44) [.long x1, .long q1] rfl (fun _ => rfl) rfl ?_
          refine dg_s (pc' := 45) [.long (q1 &&& x1)] rfl (fun _ => rfl) rfl ?_
          refine dg_s (pc' := 46) [.long (0 : Int64), .long (q1 &&& x1)] rfl (fun _ => rfl) rfl ?_
          refine dg_s (pc' := 47) [.int (lg_cmp (q1 &&& x1) (0 : Int64))] rfl (fun _ => rfl) rfl ?_
          refine dw_if (fun t => Φ (Option.bind t (dc_bk (d_X1_gatherPrimes_l8s x0 x1 x3 x5 x6)))) ((Int32.toInt (lg_cmp (q1 &&& x1) (0 : Int64))) = 0) [] 115 50 rfl (fun _ => rfl) (fun c3 => ?_) (fun c3 => ?_)
          · refine dw_g rfl ?_
            refine dg_L (pc' := 118) [(7, .int (x7 + (1 : Int32))), (8, .long q1), (0, .ref x0), (1, .long x1), (3, .long x3), (5, .int x5), (6, .int x6)] [] rfl (fun _ => rfl) rfl ?_
            refine dw_s (pc' := 8) [] rfl (fun _ => rfl) ?_
            exact dw_j rfl (fun lv1 hv => ih (x7 + (1 : Int32)) m lv1 (hv.1 _ rfl) (hv.2.1 _ rfl) (hv.2.2.1 _ rfl) (hv.2.2.2.1 _ rfl) (hv.2.2.2.2.1 _ rfl) (hv.2.2.2.2.2.1 _ rfl))
          · refine dw_g rfl ?_
            refine dg_s (pc' := 52) [.int x7] rfl (fun _ => rfl) rfl ?_
            refine dg_s (pc' := 54) [.long q1, .int x7] rfl (fun _ => rfl) rfl ?_
            refine dg_s (pc' := 55) [.long x3, .long q1, .int x7] rfl (fun _ => rfl) rfl ?_
            refine dg_s (pc' := 57) [.int x5, .long x3, .long q1, .int x7] rfl (fun _ => rfl) rfl ?_
            refine dw_b (fun t => Φ (Option.bind t (dc_bk (d_X1_gatherPrimes_l8s x0 x1 x3 x5 x6)))) (pc' := 60) (fun q2 => [.int q2]) (fun q2 => m) rfl (fun _ => rfl) (fun q2 => ?_)
            refine dw_g rfl ?_
            refine dw_if (fun t => Φ (Option.bind t (dc_bk (d_X1_gatherPrimes_l8s x0 x1 x3 x5 x6)))) ((Int32.toInt q2) = 0) [] 115 63 rfl (fun _ => rfl) (fun c4 => ?_) (fun c4 => ?_)
            · refine dw_g rfl ?_
              refine dg_L (pc' := 118) [(7, .int (x7 + (1 : Int32))), (8, .long q1), (0, .ref x0), (1, .long x1), (3, .long x3), (5, .int x5), (6, .int x6)] [] rfl (fun _ => rfl) rfl ?_
              refine dw_s (pc' := 8) [] rfl (fun _ => rfl) ?_
              exact dw_j rfl (fun lv1 hv => ih (x7 + (1 : Int32)) m lv1 (hv.1 _ rfl) (hv.2.1 _ rfl) (hv.2.2.1 _ rfl) (hv.2.2.2.1 _ rfl) (hv.2.2.2.2.1 _ rfl) (hv.2.2.2.2.2.1 _ rfl))
            · refine dw_g rfl ?_
              refine dg_s (pc' := 64) [.ref x0] rfl (fun _ => rfl) rfl ?_
              refine dg_s (pc' := 67) [.ref (x0 + 2)] rfl (fun _ => rfl) rfl ?_
              refine dg_s (pc' := 68) [.ref x0, .ref (x0 + 2)] rfl (fun _ => rfl) rfl ?_
              refine dg_s (pc' := 71) [.int (m.1 x0 1), .ref (x0 + 2)] rfl (fun _ => rfl) rfl ?_
              refine dg_s (pc' := 73) [.int x7, .int (m.1 x0 1), .ref (x0 + 2)] rfl (fun _ => rfl) rfl ?_
              refine dg_m (pc' := 74) (dc_wi m (x0 + 2) (Int32.toNatClampNeg (m.1 x0 1)) x7) [] rfl (fun _ => rfl) rfl ?_
              refine dg_s (pc' := 75) [.ref x0] rfl (fun _ => rfl) rfl ?_
              refine dg_s (pc' := 78) [.ref (x0 + 3)] rfl (fun _ => rfl) rfl ?_
              refine dg_s (pc' := 79) [.ref x0, .ref (x0 + 3)] rfl (fun _ => rfl) rfl ?_
              refine dg_s (pc' := 82) [.int ((dc_wi m (x0 + 2) (Int32.toNatClampNeg (m.1 x0 1)) x7).1 x0 1), .ref (x0 + 3)] rfl (fun _ => rfl) rfl ?_
              refine dg_s (pc' := 85) [.int (256 : Int32), .int ((dc_wi m (x0 + 2) (Int32.toNatClampNeg (m.1 x0 1)) x7).1 x0 1), .ref (x0 + 3)] rfl (fun _ => rfl) rfl ?_
              refine dg_s (pc' := 87) [.int x7, .int (256 : Int32), .int ((dc_wi m (x0 + 2) (Int32.toNatClampNeg (m.1 x0 1)) x7).1 x0 1), .ref (x0 + 3)] rfl (fun _ => rfl) rfl ?_
              refine dg_s (pc' := 89) [.int x5, .int x7, .int (256 : Int32), .int ((dc_wi m (x0 + 2) (Int32.toNatClampNeg (m.1 x0 1)) x7).1 x0 1), .ref (x0 + 3)] rfl (fun _ => rfl) rfl ?_
              refine dw_b (fun t => Φ (Option.bind t (dc_bk (d_X1_gatherPrimes_l8s x0 x1 x3 x5 x6)))) (pc' := 92) (fun q3 => [.int q3, .int (256 : Int32), .int ((dc_wi m (x0 + 2) (Int32.toNatClampNeg (m.1 x0 1)) x7).1 x0 1), .ref (x0 + 3)]) (fun q3 => (dc_wi m (x0 + 2) (Int32.toNatClampNeg (m.1 x0 1)) x7)) rfl (fun _ => rfl) (fun q3 => ?_)
              refine dw_g rfl ?_
              refine dg_s (pc' := 93) [.int ((256 : Int32) + q3), .int ((dc_wi m (x0 + 2) (Int32.toNatClampNeg (m.1 x0 1)) x7).1 x0 1), .ref (x0 + 3)] rfl (fun _ => rfl) rfl ?_
              refine dg_m (pc' := 94) (dc_wi (dc_wi m (x0 + 2) (Int32.toNatClampNeg (m.1 x0 1)) x7) (x0 + 3) (Int32.toNatClampNeg ((dc_wi m (x0 + 2) (Int32.toNatClampNeg (m.1 x0 1)) x7).1 x0 1)) ((256 : Int32) + q3)) [] rfl (fun _ => rfl) rfl ?_
              refine dg_s (pc' := 95) [.ref x0] rfl (fun _ => rfl) rfl ?_
              refine dg_s (pc' := 98) [.ref (x0 + 4)] rfl (fun _ => rfl) rfl ?_
              refine dg_s (pc' := 99) [.ref x0, .ref (x0 + 4)] rfl (fun _ => rfl) rfl ?_
              refine dg_s (pc' := 102) [.int ((dc_wi (dc_wi m (x0 + 2) (Int32.toNatClampNeg (m.1 x0 1)) x7) (x0 + 3) (Int32.toNatClampNeg ((dc_wi m (x0 + 2) (Int32.toNatClampNeg (m.1 x0 1)) x7).1 x0 1)) ((256 : Int32) + q3)).1 x0 1), .ref (x0 + 4)] rfl (fun _ => rfl) rfl ?_
              refine dg_s (pc' := 104) [.long q1, .int ((dc_wi (dc_wi m (x0 + 2) (Int32.toNatClampNeg (m.1 x0 1)) x7) (x0 + 3) (Int32.toNatClampNeg ((dc_wi m (x0 + 2) (Int32.toNatClampNeg (m.1 x0 1)) x7).1 x0 1)) ((256 : Int32) + q3)).1 x0 1), .ref (x0 + 4)] rfl (fun _ => rfl) rfl ?_
              refine dg_m (pc' := 105) (dc_wl (dc_wi (dc_wi m (x0 + 2) (Int32.toNatClampNeg (m.1 x0 1)) x7) (x0 + 3) (Int32.toNatClampNeg ((dc_wi m (x0 + 2) (Int32.toNatClampNeg (m.1 x0 1)) x7).1 x0 1)) ((256 : Int32) + q3)) (x0 + 4) (Int32.toNatClampNeg ((dc_wi (dc_wi m (x0 + 2) (Int32.toNatClampNeg (m.1 x0 1)) x7) (x0 + 3) (Int32.toNatClampNeg ((dc_wi m (x0 + 2) (Int32.toNatClampNeg (m.1 x0 1)) x7).1 x0 1)) ((256 : Int32) + q3)).1 x0 1)) q1) [] rfl (fun _ => rfl) rfl ?_
              refine dg_s (pc' := 106) [.ref x0] rfl (fun _ => rfl) rfl ?_
              refine dg_s (pc' := 107) [.ref x0, .ref x0] rfl (fun _ => rfl) rfl ?_
              refine dg_s (pc' := 110) [.int ((dc_wl (dc_wi (dc_wi m (x0 + 2) (Int32.toNatClampNeg (m.1 x0 1)) x7) (x0 + 3) (Int32.toNatClampNeg ((dc_wi m (x0 + 2) (Int32.toNatClampNeg (m.1 x0 1)) x7).1 x0 1)) ((256 : Int32) + q3)) (x0 + 4) (Int32.toNatClampNeg ((dc_wi (dc_wi m (x0 + 2) (Int32.toNatClampNeg (m.1 x0 1)) x7) (x0 + 3) (Int32.toNatClampNeg ((dc_wi m (x0 + 2) (Int32.toNatClampNeg (m.1 x0 1)) x7).1 x0 1)) ((256 : Int32) + q3)).1 x0 1)) q1).1 x0 1), .ref x0] rfl (fun _ => rfl) rfl ?_
              refine dg_s (pc' := 111) [.int (1 : Int32), .int ((dc_wl (dc_wi (dc_wi m (x0 + 2) (Int32.toNatClampNeg (m.1 x0 1)) x7) (x0 + 3) (Int32.toNatClampNeg ((dc_wi m (x0 + 2) (Int32.toNatClampNeg (m.1 x0 1)) x7).1 x0 1)) ((256 : Int32) + q3)) (x0 + 4) (Int32.toNatClampNeg ((dc_wi (dc_wi m (x0 + 2) (Int32.toNatClampNeg (m.1 x0 1)) x7) (x0 + 3) (Int32.toNatClampNeg ((dc_wi m (x0 + 2) (Int32.toNatClampNeg (m.1 x0 1)) x7).1 x0 1)) ((256 : Int32) + q3)).1 x0 1)) q1).1 x0 1), .ref x0] rfl (fun _ => rfl) rfl ?_
              refine dg_s (pc' := 112) [.int (((dc_wl (dc_wi (dc_wi m (x0 + 2) (Int32.toNatClampNeg (m.1 x0 1)) x7) (x0 + 3) (Int32.toNatClampNeg ((dc_wi m (x0 + 2) (Int32.toNatClampNeg (m.1 x0 1)) x7).1 x0 1)) ((256 : Int32) + q3)) (x0 + 4) (Int32.toNatClampNeg ((dc_wi (dc_wi m (x0 + 2) (Int32.toNatClampNeg (m.1 x0 1)) x7) (x0 + 3) (Int32.toNatClampNeg ((dc_wi m (x0 + 2) (Int32.toNatClampNeg (m.1 x0 1)) x7).1 x0 1)) ((256 : Int32) + q3)).1 x0 1)) q1).1 x0 1) + (1 : Int32)), .ref x0] rfl (fun _ => rfl) rfl ?_
              refine dg_m (pc' := 115) (dc_wi (dc_wl (dc_wi (dc_wi m (x0 + 2) (Int32.toNatClampNeg (m.1 x0 1)) x7) (x0 + 3) (Int32.toNatClampNeg ((dc_wi m (x0 + 2) (Int32.toNatClampNeg (m.1 x0 1)) x7).1 x0 1)) ((256 : Int32) + q3)) (x0 + 4) (Int32.toNatClampNeg ((dc_wi (dc_wi m (x0 + 2) (Int32.toNatClampNeg (m.1 x0 1)) x7) (x0 + 3) (Int32.toNatClampNeg ((dc_wi m (x0 + 2) (Int32.toNatClampNeg (m.1 x0 1)) x7).1 x0 1)) ((256 : Int32) + q3)).1 x0 1)) q1) x0 1 (((dc_wl (dc_wi (dc_wi m (x0 + 2) (Int32.toNatClampNeg (m.1 x0 1)) x7) (x0 + 3) (Int32.toNatClampNeg ((dc_wi m (x0 + 2) (Int32.toNatClampNeg (m.1 x0 1)) x7).1 x0 1)) ((256 : Int32) + q3)) (x0 + 4) (Int32.toNatClampNeg ((dc_wi (dc_wi m (x0 + 2) (Int32.toNatClampNeg (m.1 x0 1)) x7) (x0 + 3) (Int32.toNatClampNeg ((dc_wi m (x0 + 2) (Int32.toNatClampNeg (m.1 x0 1)) x7).1 x0 1)) ((256 : Int32) + q3)).1 x0 1)) q1).1 x0 1) + (1 : Int32))) [] rfl (fun _ => rfl) rfl ?_
              refine dg_L (pc' := 118) [(7, .int (x7 + (1 : Int32))), (8, .long q1), (0, .ref x0), (1, .long x1), (3, .long x3), (5, .int x5), (6, .int x6)] [] rfl (fun _ => rfl) rfl ?_
              refine dw_s (pc' := 8) [] rfl (fun _ => rfl) ?_
              exact dw_j rfl (fun lv1 hv => ih (x7 + (1 : Int32)) (dc_wi (dc_wl (dc_wi (dc_wi m (x0 + 2) (Int32.toNatClampNeg (m.1 x0 1)) x7) (x0 + 3) (Int32.toNatClampNeg ((dc_wi m (x0 + 2) (Int32.toNatClampNeg (m.1 x0 1)) x7).1 x0 1)) ((256 : Int32) + q3)) (x0 + 4) (Int32.toNatClampNeg ((dc_wi (dc_wi m (x0 + 2) (Int32.toNatClampNeg (m.1 x0 1)) x7) (x0 + 3) (Int32.toNatClampNeg ((dc_wi m (x0 + 2) (Int32.toNatClampNeg (m.1 x0 1)) x7).1 x0 1)) ((256 : Int32) + q3)).1 x0 1)) q1) x0 1 (((dc_wl (dc_wi (dc_wi m (x0 + 2) (Int32.toNatClampNeg (m.1 x0 1)) x7) (x0 + 3) (Int32.toNatClampNeg ((dc_wi m (x0 + 2) (Int32.toNatClampNeg (m.1 x0 1)) x7).1 x0 1)) ((256 : Int32) + q3)) (x0 + 4) (Int32.toNatClampNeg ((dc_wi (dc_wi m (x0 + 2) (Int32.toNatClampNeg (m.1 x0 1)) x7) (x0 + 3) (Int32.toNatClampNeg ((dc_wi m (x0 + 2) (Int32.toNatClampNeg (m.1 x0 1)) x7).1 x0 1)) ((256 : Int32) + q3)).1 x0 1)) q1).1 x0 1) + (1 : Int32))) lv1 (hv.1 _ rfl) (hv.2.1 _ rfl) (hv.2.2.1 _ rfl) (hv.2.2.2.1 _ rfl) (hv.2.2.2.2.1 _ rfl) (hv.2.2.2.2.2.1 _ rfl))
noncomputable def d_X1_gatherPrimes (x0 : Nat) (x1 : Int64) (x3 : Int64) (x5 : Int32) (x6 : Int32) (m : dc_M) : Option dc_M :=
  (d_X1_gatherPrimes_l8 x0 x1 x3 x5 x6 (0 : Int32) (dc_wi m x0 1 (0 : Int32)))
set_option maxHeartbeats 8000000 in
theorem k_X1_gatherPrimes {u : Nat} {N : Nat} {Φ : (Option dc_M) → Option Value → dc_M → Prop} (x0 : Nat) (x1 : Int64) (x3 : Int64) (x5 : Int32) (x6 : Int32) (m : dc_M) (kR : ∀  (m : dc_M), Φ (some (m)) (none) m)  {lv : ab_L} (f0 : ab_lk lv 0 = some (.ref x0)) (f1 : ab_lk lv 1 = some (.long x1)) (f3 : ab_lk lv 3 = some (.long x3)) (f5 : ab_lk lv 5 = some (.int x5)) (f6 : ab_lk lv 6 = some (.int x6)) : dc_pv u N ab_M_X1_gatherPrimes 0 lv [] m (Φ (d_X1_gatherPrimes x0 x1 x3 x5 x6 m)) := by
  refine dc_pv.mono (dc_ok (C := C_X1_gatherPrimes) (S := S_X1_gatherPrimes) CO_X1_gatherPrimes 400 0 [(0, .ref x0), (1, .long x1), (3, .long x3), (5, .int x5), (6, .int x6)] lv [] m (dc_sub_cons f0 (dc_sub_cons f1 (dc_sub_cons f3 (dc_sub_cons f5 (dc_sub_cons f6 (dc_sub_nil)))))) ?_) (Nat.le_succ N)
  unfold d_X1_gatherPrimes
  refine dg_s (pc' := 1) [.ref x0] rfl (fun _ => rfl) rfl ?_
  refine dg_s (pc' := 2) [.int (0 : Int32), .ref x0] rfl (fun _ => rfl) rfl ?_
  refine dg_m (pc' := 5) (dc_wi m x0 1 (0 : Int32)) [] rfl (fun _ => rfl) rfl ?_
  refine dg_s (pc' := 6) [.int (0 : Int32)] rfl (fun _ => rfl) rfl ?_
  refine dw_L (pc' := 8) [(7, .int (0 : Int32)), (0, .ref x0), (1, .long x1), (3, .long x3), (5, .int x5), (6, .int x6)] [] rfl (fun _ => rfl) ?_
  exact dw_j rfl (fun lv1 hv => k_X1_gatherPrimes_l8 (Φ := (fun t => Φ t)) x0 x1 x3 x5 x6 (fun _b => kR _b) N  (0 : Int32) (dc_wi m x0 1 (0 : Int32)) lv1 (hv.1 _ rfl) (hv.2.1 _ rfl) (hv.2.2.1 _ rfl) (hv.2.2.2.1 _ rfl) (hv.2.2.2.2.1 _ rfl) (hv.2.2.2.2.2.1 _ rfl))
noncomputable def H_X1_gatherPrimes : dc_H := fun As m k => match As with
  | [.ref x0, .long x1, .long x3, .int x5, .int x6] => (d_X1_gatherPrimes x0 x1 x3 x5 x6 m).bind (fun q => k (none) q)
  | _ => dc_kz
theorem H_X1_gatherPrimes_ok {u : Nat} : dc_cok u 7 H_X1_gatherPrimes := fun M' hG N As m k P hz hP => by
  obtain rfl : ab_M_X1_gatherPrimes = M' := Option.some.inj hG
  unfold H_X1_gatherPrimes at hP
  split at hP
  · rename_i x0 x1 x3 x5 x6
    exact dc_pv.imp (k_X1_gatherPrimes (Φ := fun (t : Option dc_M) r m' => P (t.bind (fun q => k (none) q)) → P (k r m')) x0 x1 x3 x5 x6 m (fun _ h => h) rfl rfl rfl rfl rfl) (fun r m' h => h hP)
  · exact absurd hP hz
noncomputable def C_X8_solve : List (Nat × dc_H) := [(11, H_X1_choose), (7, H_X1_gatherPrimes), (99, H_X8_lettersOf)]
theorem CO_X8_solve {u : Nat} : dc_CO u C_X8_solve := dc_CO_cons H_X1_choose_ok (dc_CO_cons H_X1_gatherPrimes_ok (dc_CO_cons H_X8_lettersOf_ok (dc_CO_nil)))
def S_X8_solve : List (Nat × List Nat) := [(79, [0, 1, 2])]
noncomputable def d_X8_solve_l79b (x0 : Nat) (x1 : Int32) (x2 : Int32) (m : dc_M) : Option ((Int32 × dc_M) ⊕ dc_M) :=
  (if (Int32.toInt (m.1 (x0 + 3) (Int32.toNatClampNeg x1))) ≤ (Int32.toInt x2) then some (Sum.inr (m)) else ((d_X8_lettersOf ((dc_wi m (x0 + 5) (Int32.toNatClampNeg ((x1 * (32 : Int32)) + x2)) (m.1 ((x0 + 6) + 1) (Int32.toNatClampNeg x2))).1 ((x0 + 6) + 1) (Int32.toNatClampNeg x2)) ((dc_wi m (x0 + 5) (Int32.toNatClampNeg ((x1 * (32 : Int32)) + x2)) (m.1 ((x0 + 6) + 1) (Int32.toNatClampNeg x2))).1 x0 6) (dc_wi m (x0 + 5) (Int32.toNatClampNeg ((x1 * (32 : Int32)) + x2)) (m.1 ((x0 + 6) + 1) (Int32.toNatClampNeg x2)))).bind (fun q1 => some (Sum.inl ((x2 + (1 : Int32)), (dc_wi (dc_wi m (x0 + 5) (Int32.toNatClampNeg ((x1 * (32 : Int32)) + x2)) (m.1 ((x0 + 6) + 1) (Int32.toNatClampNeg x2))) (x0 + 4) (Int32.toNatClampNeg x1) (((dc_wi m (x0 + 5) (Int32.toNatClampNeg ((x1 * (32 : Int32)) + x2)) (m.1 ((x0 + 6) + 1) (Int32.toNatClampNeg x2))).1 (x0 + 4) (Int32.toNatClampNeg x1)) + q1)))))))
noncomputable def d_X8_solve_l79s (x0 : Nat) (x1 : Int32) : (Int32 × dc_M) → Option ((Int32 × dc_M) ⊕ dc_M) := fun s => d_X8_solve_l79b x0 x1 s.1 s.2
noncomputable def d_X8_solve_l79 (x0 : Nat) (x1 : Int32) (x2 : Int32) (m : dc_M) : Option dc_M := dc_lp (d_X8_solve_l79s x0 x1) (x2, m)
set_option maxHeartbeats 8000000 in
theorem k_X8_solve_l79 {u : Nat} {Φ : (Option dc_M) → Option Value → dc_M → Prop} (x0 : Nat) (x1 : Int32) (kR : ∀  (m : dc_M), Φ (some (m)) (none) m) : ∀ (N : Nat), ∀ (x2 : Int32) (m : dc_M) (lv : ab_L), ab_lk lv 0 = some (.ref x0) → ab_lk lv 1 = some (.int x1) → ab_lk lv 2 = some (.int x2) → dc_pv u N ab_M_X8_solve 79 lv [] m (Φ (d_X8_solve_l79 x0 x1 x2 m)) := by
  intro N
  induction N with
  | zero => intros; exact dc_pv_zero
  | succ N ih =>
    intro x2 m lv f0 f1 f2
    refine dc_ok (C := C_X8_solve) (S := S_X8_solve) CO_X8_solve 400 79 [(0, .ref x0), (1, .int x1), (2, .int x2)] lv [] m (dc_sub_cons f0 (dc_sub_cons f1 (dc_sub_cons f2 (dc_sub_nil)))) ?_
    unfold d_X8_solve_l79
    rw [dc_lp_eq]
    show (fun t x => dc_lf u N ab_M_X8_solve (Φ (Option.bind t (dc_bk (d_X8_solve_l79s x0 x1)))) x) (d_X8_solve_l79b x0 x1 x2 m) _
    dsimp only
    unfold d_X8_solve_l79b
    refine dg_s (pc' := 80) [.int x2] rfl (fun _ => rfl) rfl ?_
    refine dg_s (pc' := 81) [.ref x0, .int x2] rfl (fun _ => rfl) rfl ?_
    refine dg_s (pc' := 84) [.ref (x0 + 3), .int x2] rfl (fun _ => rfl) rfl ?_
    refine dg_s (pc' := 85) [.int x1, .ref (x0 + 3), .int x2] rfl (fun _ => rfl) rfl ?_
    refine dg_s (pc' := 86) [.int (m.1 (x0 + 3) (Int32.toNatClampNeg x1)), .int x2] rfl (fun _ => rfl) rfl ?_
    refine dw_if (fun t => Φ (Option.bind t (dc_bk (d_X8_solve_l79s x0 x1)))) ((Int32.toInt (m.1 (x0 + 3) (Int32.toNatClampNeg x1))) ≤ (Int32.toInt x2)) [] 140 89 rfl (fun _ => rfl) (fun c0 => ?_) (fun c0 => ?_)
    · refine dw_g rfl ?_
      exact dw_r (some (.inl (none, m))) rfl (fun _ => rfl) (kR _)
    · refine dw_g rfl ?_
      refine dg_s (pc' := 90) [.ref x0] rfl (fun _ => rfl) rfl ?_
      refine dg_s (pc' := 93) [.ref (x0 + 5)] rfl (fun _ => rfl) rfl ?_
      refine dg_s (pc' := 94) [.int x1, .ref (x0 + 5)] rfl (fun _ => rfl) rfl ?_
      refine dg_s (pc' := 96) [.int (32 : Int32), .int x1, .ref (x0 + 5)] rfl (fun _ => rfl) rfl ?_
      refine dg_s (pc' := 97) [.int (x1 * (32 : Int32)), .ref (x0 + 5)] rfl (fun _ => rfl) rfl ?_
      refine dg_s (pc' := 98) [.int x2, .int (x1 * (32 : Int32)), .ref (x0 + 5)] rfl (fun _ => rfl) rfl ?_
      refine dg_s (pc' := 99) [.int ((x1 * (32 : Int32)) + x2), .ref (x0 + 5)] rfl (fun _ => rfl) rfl ?_
      refine dg_s (pc' := 100) [.ref x0, .int ((x1 * (32 : Int32)) + x2), .ref (x0 + 5)] rfl (fun _ => rfl) rfl ?_
      refine dg_s (pc' := 103) [.ref (x0 + 6), .int ((x1 * (32 : Int32)) + x2), .ref (x0 + 5)] rfl (fun _ => rfl) rfl ?_
      refine dg_s (pc' := 106) [.ref ((x0 + 6) + 1), .int ((x1 * (32 : Int32)) + x2), .ref (x0 + 5)] rfl (fun _ => rfl) rfl ?_
      refine dg_s (pc' := 107) [.int x2, .ref ((x0 + 6) + 1), .int ((x1 * (32 : Int32)) + x2), .ref (x0 + 5)] rfl (fun _ => rfl) rfl ?_
      refine dg_s (pc' := 108) [.int (m.1 ((x0 + 6) + 1) (Int32.toNatClampNeg x2)), .int ((x1 * (32 : Int32)) + x2), .ref (x0 + 5)] rfl (fun _ => rfl) rfl ?_
      refine dg_m (pc' := 109) (dc_wi m (x0 + 5) (Int32.toNatClampNeg ((x1 * (32 : Int32)) + x2)) (m.1 ((x0 + 6) + 1) (Int32.toNatClampNeg x2))) [] rfl (fun _ => rfl) rfl ?_
      refine dg_s (pc' := 110) [.ref x0] rfl (fun _ => rfl) rfl ?_
      refine dg_s (pc' := 113) [.ref (x0 + 4)] rfl (fun _ => rfl) rfl ?_
      refine dg_s (pc' := 114) [.int x1, .ref (x0 + 4)] rfl (fun _ => rfl) rfl ?_
      refine dg_s (pc' := 115) [.int x1, .ref (x0 + 4), .int x1, .ref (x0 + 4)] rfl (fun _ => rfl) rfl ?_
      refine dg_s (pc' := 116) [.int ((dc_wi m (x0 + 5) (Int32.toNatClampNeg ((x1 * (32 : Int32)) + x2)) (m.1 ((x0 + 6) + 1) (Int32.toNatClampNeg x2))).1 (x0 + 4) (Int32.toNatClampNeg x1)), .int x1, .ref (x0 + 4)] rfl (fun _ => rfl) rfl ?_
      refine dg_s (pc' := 117) [.ref x0, .int ((dc_wi m (x0 + 5) (Int32.toNatClampNeg ((x1 * (32 : Int32)) + x2)) (m.1 ((x0 + 6) + 1) (Int32.toNatClampNeg x2))).1 (x0 + 4) (Int32.toNatClampNeg x1)), .int x1, .ref (x0 + 4)] rfl (fun _ => rfl) rfl ?_
      refine dg_s (pc' := 120) [.ref (x0 + 6), .int ((dc_wi m (x0 + 5) (Int32.toNatClampNeg ((x1 * (32 : Int32)) + x2)) (m.1 ((x0 + 6) + 1) (Int32.toNatClampNeg x2))).1 (x0 + 4) (Int32.toNatClampNeg x1)), .int x1, .ref (x0 + 4)] rfl (fun _ => rfl) rfl ?_
      refine dg_s (pc' := 123) [.ref ((x0 + 6) + 1), .int ((dc_wi m (x0 + 5) (Int32.toNatClampNeg ((x1 * (32 : Int32)) + x2)) (m.1 ((x0 + 6) + 1) (Int32.toNatClampNeg x2))).1 (x0 + 4) (Int32.toNatClampNeg x1)), .int x1, .ref (x0 + 4)] rfl (fun _ => rfl) rfl ?_
      refine dg_s (pc' := 124) [.int x2, .ref ((x0 + 6) + 1), .int ((dc_wi m (x0 + 5) (Int32.toNatClampNeg ((x1 * (32 : Int32)) + x2)) (m.1 ((x0 + 6) + 1) (Int32.toNatClampNeg x2))).1 (x0 + 4) (Int32.toNatClampNeg x1)), .int x1, .ref (x0 + 4)] rfl (fun _ => rfl) rfl ?_
      refine dg_s (pc' := 125) [.int ((dc_wi m (x0 + 5) (Int32.toNatClampNeg ((x1 * (32 : Int32)) + x2)) (m.1 ((x0 + 6) + 1) (Int32.toNatClampNeg x2))).1 ((x0 + 6) + 1) (Int32.toNatClampNeg x2)), .int ((dc_wi m (x0 + 5) (Int32.toNatClampNeg ((x1 * (32 : Int32)) + x2)) (m.1 ((x0 + 6) + 1) (Int32.toNatClampNeg x2))).1 (x0 + 4) (Int32.toNatClampNeg x1)), .int x1, .ref (x0 + 4)] rfl (fun _ => rfl) rfl ?_
      refine dg_s (pc' := 126) [.ref x0, .int ((dc_wi m (x0 + 5) (Int32.toNatClampNeg ((x1 * (32 : Int32)) + x2)) (m.1 ((x0 + 6) + 1) (Int32.toNatClampNeg x2))).1 ((x0 + 6) + 1) (Int32.toNatClampNeg x2)), .int ((dc_wi m (x0 + 5) (Int32.toNatClampNeg ((x1 * (32 : Int32)) + x2)) (m.1 ((x0 + 6) + 1) (Int32.toNatClampNeg x2))).1 (x0 + 4) (Int32.toNatClampNeg x1)), .int x1, .ref (x0 + 4)] rfl (fun _ => rfl) rfl ?_
      refine dg_s (pc' := 129) [.int ((dc_wi m (x0 + 5) (Int32.toNatClampNeg ((x1 * (32 : Int32)) + x2)) (m.1 ((x0 + 6) + 1) (Int32.toNatClampNeg x2))).1 x0 6), .int ((dc_wi m (x0 + 5) (Int32.toNatClampNeg ((x1 * (32 : Int32)) + x2)) (m.1 ((x0 + 6) + 1) (Int32.toNatClampNeg x2))).1 ((x0 + 6) + 1) (Int32.toNatClampNeg x2)), .int ((dc_wi m (x0 + 5) (Int32.toNatClampNeg ((x1 * (32 : Int32)) + x2)) (m.1 ((x0 + 6) + 1) (Int32.toNatClampNeg x2))).1 (x0 + 4) (Int32.toNatClampNeg x1)), .int x1, .ref (x0 + 4)] rfl (fun _ => rfl) rfl ?_
      refine dw_b (fun t => Φ (Option.bind t (dc_bk (d_X8_solve_l79s x0 x1)))) (pc' := 132) (fun q1 => [.int q1, .int ((dc_wi m (x0 + 5) (Int32.toNatClampNeg ((x1 * (32 : Int32)) + x2)) (m.1 ((x0 + 6) + 1) (Int32.toNatClampNeg x2))).1 (x0 + 4) (Int32.toNatClampNeg x1)), .int x1, .ref (x0 + 4)]) (fun q1 => (dc_wi m (x0 + 5) (Int32.toNatClampNeg ((x1 * (32 : Int32)) + x2)) (m.1 ((x0 + 6) + 1) (Int32.toNatClampNeg x2)))) rfl (fun _ => rfl) (fun q1 => ?_)
      refine dw_g rfl ?_
      refine dg_s (pc' := 133) [.int (((dc_wi m (x0 + 5) (Int32.toNatClampNeg ((x1 * (32 : Int32)) + x2)) (m.1 ((x0 + 6) + 1) (Int32.toNatClampNeg x2))).1 (x0 + 4) (Int32.toNatClampNeg x1)) + q1), .int x1, .ref (x0 + 4)] rfl (fun _ => rfl) rfl ?_
      refine dg_m (pc' := 134) (dc_wi (dc_wi m (x0 + 5) (Int32.toNatClampNeg ((x1 * (32 : Int32)) + x2)) (m.1 ((x0 + 6) + 1) (Int32.toNatClampNeg x2))) (x0 + 4) (Int32.toNatClampNeg x1) (((dc_wi m (x0 + 5) (Int32.toNatClampNeg ((x1 * (32 : Int32)) + x2)) (m.1 ((x0 + 6) + 1) (Int32.toNatClampNeg x2))).1 (x0 + 4) (Int32.toNatClampNeg x1)) + q1)) [] rfl (fun _ => rfl) rfl ?_
      refine dg_L (pc' := 137) [(2, .int (x2 + (1 : Int32))), (0, .ref x0), (1, .int x1)] [] rfl (fun _ => rfl) rfl ?_
      refine dw_s (pc' := 79) [] rfl (fun _ => rfl) ?_
      exact dw_j rfl (fun lv1 hv => ih (x2 + (1 : Int32)) (dc_wi (dc_wi m (x0 + 5) (Int32.toNatClampNeg ((x1 * (32 : Int32)) + x2)) (m.1 ((x0 + 6) + 1) (Int32.toNatClampNeg x2))) (x0 + 4) (Int32.toNatClampNeg x1) (((dc_wi m (x0 + 5) (Int32.toNatClampNeg ((x1 * (32 : Int32)) + x2)) (m.1 ((x0 + 6) + 1) (Int32.toNatClampNeg x2))).1 (x0 + 4) (Int32.toNatClampNeg x1)) + q1)) lv1 (hv.1 _ rfl) (hv.2.1 _ rfl) (hv.2.2.1 _ rfl))
noncomputable def d_X8_solve (x0 : Nat) (x1 : Int32) (m : dc_M) : Option dc_M :=
  (if (Int32.toInt (((m.1 x0 8) >>> (x1 &&& 31)) &&& (1 : Int32))) = 0 then ((d_X1_gatherPrimes (x0 + 6) ((dc_wi m x0 8 ((m.1 x0 8) ||| ((1 : Int32) <<< (x1 &&& 31)))).2.1 (x0 + 1) (Int32.toNatClampNeg x1)) ((dc_wi m x0 8 ((m.1 x0 8) ||| ((1 : Int32) <<< (x1 &&& 31)))).2.1 (x0 + 2) (Int32.toNatClampNeg x1)) ((dc_wi m x0 8 ((m.1 x0 8) ||| ((1 : Int32) <<< (x1 &&& 31)))).1 x0 6) ((dc_wi m x0 8 ((m.1 x0 8) ||| ((1 : Int32) <<< (x1 &&& 31)))).1 x0 7) (dc_wi m x0 8 ((m.1 x0 8) ||| ((1 : Int32) <<< (x1 &&& 31))))).bind (fun q1 => ((d_X1_choose (x0 + 6) (q1.2.1 (x0 + 1) (Int32.toNatClampNeg x1)) q1).bind (fun q2 => (d_X8_solve_l79 x0 x1 (0 : Int32) (dc_wi (dc_wi q2.2 (x0 + 3) (Int32.toNatClampNeg x1) q2.1) (x0 + 4) (Int32.toNatClampNeg x1) (0 : Int32))))))) else some (m))
set_option maxHeartbeats 8000000 in
theorem k_X8_solve {u : Nat} {N : Nat} {Φ : (Option dc_M) → Option Value → dc_M → Prop} (x0 : Nat) (x1 : Int32) (m : dc_M) (kR : ∀  (m : dc_M), Φ (some (m)) (none) m)  {lv : ab_L} (f0 : ab_lk lv 0 = some (.ref x0)) (f1 : ab_lk lv 1 = some (.int x1)) : dc_pv u N ab_M_X8_solve 0 lv [] m (Φ (d_X8_solve x0 x1 m)) := by
  refine dc_pv.mono (dc_ok (C := C_X8_solve) (S := S_X8_solve) CO_X8_solve 400 0 [(0, .ref x0), (1, .int x1)] lv [] m (dc_sub_cons f0 (dc_sub_cons f1 (dc_sub_nil))) ?_) (Nat.le_succ N)
  unfold d_X8_solve
  refine dg_s (pc' := 1) [.ref x0] rfl (fun _ => rfl) rfl ?_
  refine dg_s (pc' := 4) [.int (m.1 x0 8)] rfl (fun _ => rfl) rfl ?_
  refine dg_s (pc' := 5) [.int x1, .int (m.1 x0 8)] rfl (fun _ => rfl) rfl ?_
  refine dg_s (pc' := 6) [.int ((m.1 x0 8) >>> (x1 &&& 31))] rfl (fun _ => rfl) rfl ?_
  refine dg_s (pc' := 7) [.int (1 : Int32), .int ((m.1 x0 8) >>> (x1 &&& 31))] rfl (fun _ => rfl) rfl ?_
  refine dg_s (pc' := 8) [.int (((m.1 x0 8) >>> (x1 &&& 31)) &&& (1 : Int32))] rfl (fun _ => rfl) rfl ?_
  refine dw_if (fun t => Φ t) ((Int32.toInt (((m.1 x0 8) >>> (x1 &&& 31)) &&& (1 : Int32))) = 0) [] 12 11 rfl (fun _ => rfl) (fun c0 => ?_) (fun c0 => ?_)
  · refine dw_g rfl ?_
    refine dg_s (pc' := 13) [.ref x0] rfl (fun _ => rfl) rfl ?_
    refine dg_s (pc' := 14) [.ref x0, .ref x0] rfl (fun _ => rfl) rfl ?_
    refine dg_s (pc' := 17) [.int (m.1 x0 8), .ref x0] rfl (fun _ => rfl) rfl ?_
    refine dg_s (pc' := 18) [.int (1 : Int32), .int (m.1 x0 8), .ref x0] rfl (fun _ => rfl) rfl ?_
    refine dg_s (pc' := 19) [.int x1, .int (1 : Int32), .int (m.1 x0 8), .ref x0] rfl (fun _ => rfl) rfl ?_
    refine dg_s (pc' := 20) [.int ((1 : Int32) <<< (x1 &&& 31)), .int (m.1 x0 8), .ref x0] rfl (fun _ => rfl) rfl ?_
    refine dg_s (pc' := 21) [.int ((m.1 x0 8) ||| ((1 : Int32) <<< (x1 &&& 31))), .ref x0] rfl (fun _ => rfl) rfl ?_
    refine dg_m (pc' := 24) (dc_wi m x0 8 ((m.1 x0 8) ||| ((1 : Int32) <<< (x1 &&& 31)))) [] rfl (fun _ => rfl) rfl ?_
    refine dg_s (pc' := 25) [.ref x0] rfl (fun _ => rfl) rfl ?_
    refine dg_s (pc' := 28) [.ref (x0 + 6)] rfl (fun _ => rfl) rfl ?_
    refine dg_s (pc' := 29) [.ref x0, .ref (x0 + 6)] rfl (fun _ => rfl) rfl ?_
    refine dg_s (pc' := 32) [.ref (x0 + 1), .ref (x0 + 6)] rfl (fun _ => rfl) rfl ?_
    refine dg_s (pc' := 33) [.int x1, .ref (x0 + 1), .ref (x0 + 6)] rfl (fun _ => rfl) rfl ?_
    refine dg_s (pc' := 34) [.long ((dc_wi m x0 8 ((m.1 x0 8) ||| ((1 : Int32) <<< (x1 &&& 31)))).2.1 (x0 + 1) (Int32.toNatClampNeg x1)), .ref (x0 + 6)] rfl (fun _ => rfl) rfl ?_
    refine dg_s (pc' := 35) [.ref x0, .long ((dc_wi m x0 8 ((m.1 x0 8) ||| ((1 : Int32) <<< (x1 &&& 31)))).2.1 (x0 + 1) (Int32.toNatClampNeg x1)), .ref (x0 + 6)] rfl (fun _ => rfl) rfl ?_
    refine dg_s (pc' := 38) [.ref (x0 + 2), .long ((dc_wi m x0 8 ((m.1 x0 8) ||| ((1 : Int32) <<< (x1 &&& 31)))).2.1 (x0 + 1) (Int32.toNatClampNeg x1)), .ref (x0 + 6)] rfl (fun _ => rfl) rfl ?_
    refine dg_s (pc' := 39) [.int x1, .ref (x0 + 2), .long ((dc_wi m x0 8 ((m.1 x0 8) ||| ((1 : Int32) <<< (x1 &&& 31)))).2.1 (x0 + 1) (Int32.toNatClampNeg x1)), .ref (x0 + 6)] rfl (fun _ => rfl) rfl ?_
    refine dg_s (pc' := 40) [.long ((dc_wi m x0 8 ((m.1 x0 8) ||| ((1 : Int32) <<< (x1 &&& 31)))).2.1 (x0 + 2) (Int32.toNatClampNeg x1)), .long ((dc_wi m x0 8 ((m.1 x0 8) ||| ((1 : Int32) <<< (x1 &&& 31)))).2.1 (x0 + 1) (Int32.toNatClampNeg x1)), .ref (x0 + 6)] rfl (fun _ => rfl) rfl ?_
    refine dg_s (pc' := 41) [.ref x0, .long ((dc_wi m x0 8 ((m.1 x0 8) ||| ((1 : Int32) <<< (x1 &&& 31)))).2.1 (x0 + 2) (Int32.toNatClampNeg x1)), .long ((dc_wi m x0 8 ((m.1 x0 8) ||| ((1 : Int32) <<< (x1 &&& 31)))).2.1 (x0 + 1) (Int32.toNatClampNeg x1)), .ref (x0 + 6)] rfl (fun _ => rfl) rfl ?_
    refine dg_s (pc' := 44) [.int ((dc_wi m x0 8 ((m.1 x0 8) ||| ((1 : Int32) <<< (x1 &&& 31)))).1 x0 6), .long ((dc_wi m x0 8 ((m.1 x0 8) ||| ((1 : Int32) <<< (x1 &&& 31)))).2.1 (x0 + 2) (Int32.toNatClampNeg x1)), .long ((dc_wi m x0 8 ((m.1 x0 8) ||| ((1 : Int32) <<< (x1 &&& 31)))).2.1 (x0 + 1) (Int32.toNatClampNeg x1)), .ref (x0 + 6)] rfl (fun _ => rfl) rfl ?_
    refine dg_s (pc' := 45) [.ref x0, .int ((dc_wi m x0 8 ((m.1 x0 8) ||| ((1 : Int32) <<< (x1 &&& 31)))).1 x0 6), .long ((dc_wi m x0 8 ((m.1 x0 8) ||| ((1 : Int32) <<< (x1 &&& 31)))).2.1 (x0 + 2) (Int32.toNatClampNeg x1)), .long ((dc_wi m x0 8 ((m.1 x0 8) ||| ((1 : Int32) <<< (x1 &&& 31)))).2.1 (x0 + 1) (Int32.toNatClampNeg x1)), .ref (x0 + 6)] rfl (fun _ => rfl) rfl ?_
    refine dg_s (pc' := 48) [.int ((dc_wi m x0 8 ((m.1 x0 8) ||| ((1 : Int32) <<< (x1 &&& 31)))).1 x0 7), .int ((dc_wi m x0 8 ((m.1 x0 8) ||| ((1 : Int32) <<< (x1 &&& 31)))).1 x0 6), .long ((dc_wi m x0 8 ((m.1 x0 8) ||| ((1 : Int32) <<< (x1 &&& 31)))).2.1 (x0 + 2) (Int32.toNatClampNeg x1)), .long ((dc_wi m x0 8 ((m.1 x0 8) ||| ((1 : Int32) <<< (x1 &&& 31)))).2.1 (x0 + 1) (Int32.toNatClampNeg x1)), .ref (x0 + 6)] rfl (fun _ => rfl) rfl ?_
    refine dw_b (fun t => Φ t) (pc' := 51) (fun q1 => []) (fun q1 => q1) rfl (fun _ => rfl) (fun q1 => ?_)
    refine dw_g rfl ?_
    refine dg_s (pc' := 52) [.ref x0] rfl (fun _ => rfl) rfl ?_
    refine dg_s (pc' := 55) [.ref (x0 + 3)] rfl (fun _ => rfl) rfl ?_
    refine dg_s (pc' := 56) [.int x1, .ref (x0 + 3)] rfl (fun _ => rfl) rfl ?_
    refine dg_s (pc' := 57) [.ref x0, .int x1, .ref (x0 + 3)] rfl (fun _ => rfl) rfl ?_
    refine dg_s (pc' := 60) [.ref (x0 + 6), .int x1, .ref (x0 + 3)] rfl (fun _ => rfl) rfl ?_
    refine dg_s (pc' := 61) [.ref x0, .ref (x0 + 6), .int x1, .ref (x0 + 3)] rfl (fun _ => rfl) rfl ?_
    refine dg_s (pc' := 64) [.ref (x0 + 1), .ref (x0 + 6), .int x1, .ref (x0 + 3)] rfl (fun _ => rfl) rfl ?_
    refine dg_s (pc' := 65) [.int x1, .ref (x0 + 1), .ref (x0 + 6), .int x1, .ref (x0 + 3)] rfl (fun _ => rfl) rfl ?_
    refine dg_s (pc' := 66) [.long (q1.2.1 (x0 + 1) (Int32.toNatClampNeg x1)), .ref (x0 + 6), .int x1, .ref (x0 + 3)] rfl (fun _ => rfl) rfl ?_
    refine dw_b (fun t => Φ t) (pc' := 69) (fun q2 => [.int q2.1, .int x1, .ref (x0 + 3)]) (fun q2 => q2.2) rfl (fun _ => rfl) (fun q2 => ?_)
    refine dw_g rfl ?_
    refine dg_m (pc' := 70) (dc_wi q2.2 (x0 + 3) (Int32.toNatClampNeg x1) q2.1) [] rfl (fun _ => rfl) rfl ?_
    refine dg_s (pc' := 71) [.ref x0] rfl (fun _ => rfl) rfl ?_
    refine dg_s (pc' := 74) [.ref (x0 + 4)] rfl (fun _ => rfl) rfl ?_
    refine dg_s (pc' := 75) [.int x1, .ref (x0 + 4)] rfl (fun _ => rfl) rfl ?_
    refine dg_s (pc' := 76) [.int (0 : Int32), .int x1, .ref (x0 + 4)] rfl (fun _ => rfl) rfl ?_
    refine dg_m (pc' := 77) (dc_wi (dc_wi q2.2 (x0 + 3) (Int32.toNatClampNeg x1) q2.1) (x0 + 4) (Int32.toNatClampNeg x1) (0 : Int32)) [] rfl (fun _ => rfl) rfl ?_
    refine dg_s (pc' := 78) [.int (0 : Int32)] rfl (fun _ => rfl) rfl ?_
    refine dw_L (pc' := 79) [(2, .int (0 : Int32)), (0, .ref x0), (1, .int x1)] [] rfl (fun _ => rfl) ?_
    exact dw_j rfl (fun lv1 hv => k_X8_solve_l79 (Φ := (fun t => Φ t)) x0 x1 (fun _b => kR _b) N  (0 : Int32) (dc_wi (dc_wi q2.2 (x0 + 3) (Int32.toNatClampNeg x1) q2.1) (x0 + 4) (Int32.toNatClampNeg x1) (0 : Int32)) lv1 (hv.1 _ rfl) (hv.2.1 _ rfl) (hv.2.2.1 _ rfl))
  · refine dw_g rfl ?_
    exact dw_r (some (.inl (none, m))) rfl (fun _ => rfl) (kR _)
noncomputable def H_X8_solve : dc_H := fun As m k => match As with
  | [.ref x0, .int x1] => (d_X8_solve x0 x1 m).bind (fun q => k (none) q)
  | _ => dc_kz
theorem H_X8_solve_ok {u : Nat} : dc_cok u 97 H_X8_solve := fun M' hG N As m k P hz hP => by
  obtain rfl : ab_M_X8_solve = M' := Option.some.inj hG
  unfold H_X8_solve at hP
  split at hP
  · rename_i x0 x1
    exact dc_pv.imp (k_X8_solve (Φ := fun (t : Option dc_M) r m' => P (t.bind (fun q => k (none) q)) → P (k r m')) x0 x1 m (fun _ h => h) rfl rfl) (fun r m' h => h hP)
  · exact absurd hP hz
noncomputable def C_X9_makes : List (Nat × dc_H) := [(28, H_X3_isMade), (96, H_X8_cube), (97, H_X8_solve), (138, H_X9_canBeMade)]
theorem CO_X9_makes {u : Nat} : dc_CO u C_X9_makes := dc_CO_cons H_X3_isMade_ok (dc_CO_cons H_X8_cube_ok (dc_CO_cons H_X8_solve_ok (dc_CO_cons H_X9_canBeMade_ok (dc_CO_nil))))
def S_X9_makes : List (Nat × List Nat) := [(28, [0, 1, 2])]
noncomputable def d_X9_makes_b28 (x0 : Nat) (x1 : Int32) (x2 : Int32) (m : dc_M) : Option (Int32 × dc_M) :=
  ((d_X9_canBeMade x0 x1 m).bind (fun q1 => (if ¬ (Int32.toInt q1.1) = 0 then ((d_X8_solve (x0 + 14) x1 q1.2).bind (fun q2 => (if (Int32.toInt x2) = 0 then some (((q2.1 ((x0 + 14) + 3) (Int32.toNatClampNeg x1)), q2)) else (if (Int32.toInt x2) = 1 then some (((q2.1 ((x0 + 14) + 4) (Int32.toNatClampNeg x1)), q2)) else some (((d_X8_cube (x0 + 14) x1 (x2 - (10 : Int32)) q2), q2)))))) else some (((-2 : Int32), q1.2)))))
set_option maxHeartbeats 8000000 in
theorem k_X9_makes_b28 {u : Nat} {N : Nat} {Φ : (Option (Int32 × dc_M)) → Option Value → dc_M → Prop} (x0 : Nat) (x1 : Int32) (x2 : Int32) (m : dc_M) (kR : ∀ (v : Int32) (m : dc_M), Φ (some ((v, m))) (some (.int v)) m)  {lv : ab_L} (f0 : ab_lk lv 0 = some (.ref x0)) (f1 : ab_lk lv 1 = some (.int x1)) (f2 : ab_lk lv 2 = some (.int x2)) : dc_pv u N ab_M_X9_makes 28 lv [] m (Φ (d_X9_makes_b28 x0 x1 x2 m)) := by
  refine dc_pv.mono (dc_ok (C := C_X9_makes) (S := S_X9_makes) CO_X9_makes 400 28 [(0, .ref x0), (1, .int x1), (2, .int x2)] lv [] m (dc_sub_cons f0 (dc_sub_cons f1 (dc_sub_cons f2 (dc_sub_nil)))) ?_) (Nat.le_succ N)
  unfold d_X9_makes_b28
  refine dg_s (pc' := 29) [.ref x0] rfl (fun _ => rfl) rfl ?_
  refine dg_s (pc' := 30) [.int x1, .ref x0] rfl (fun _ => rfl) rfl ?_
  refine dw_b (fun t => Φ t) (pc' := 33) (fun q1 => [.int q1.1]) (fun q1 => q1.2) rfl (fun _ => rfl) (fun q1 => ?_)
  refine dw_g rfl ?_
  refine dw_if (fun t => Φ t) (¬ (Int32.toInt q1.1) = 0) [] 39 36 rfl (fun _ => rfl) (fun c0 => ?_) (fun c0 => ?_)
  · refine dw_g rfl ?_
    refine dg_s (pc' := 40) [.ref x0] rfl (fun _ => rfl) rfl ?_
    refine dg_s (pc' := 43) [.ref (x0 + 14)] rfl (fun _ => rfl) rfl ?_
    refine dg_s (pc' := 44) [.int x1, .ref (x0 + 14)] rfl (fun _ => rfl) rfl ?_
    refine dw_b (fun t => Φ t) (pc' := 47) (fun q2 => []) (fun q2 => q2) rfl (fun _ => rfl) (fun q2 => ?_)
    refine dw_g rfl ?_
    refine dg_s (pc' := 48) [.int x2] rfl (fun _ => rfl) rfl ?_
    refine dw_sw (fun t => Φ t) ((Int32.toInt x2)) 96 [(0, 76), (1, 86)] [] rfl (fun _ => rfl) ?_
    refine dw_ts (fun t => Φ t) (fun c1 => ?_) (fun c1 => ?_)
    · refine dw_g rfl ?_
      refine dg_s (pc' := 77) [.ref x0] rfl (fun _ => rfl) rfl ?_
      refine dg_s (pc' := 80) [.ref (x0 + 14)] rfl (fun _ => rfl) rfl ?_
      refine dg_s (pc' := 83) [.ref ((x0 + 14) + 3)] rfl (fun _ => rfl) rfl ?_
      refine dg_s (pc' := 84) [.int x1, .ref ((x0 + 14) + 3)] rfl (fun _ => rfl) rfl ?_
      refine dg_s (pc' := 85) [.int (q2.1 ((x0 + 14) + 3) (Int32.toNatClampNeg x1))] rfl (fun _ => rfl) rfl ?_
      exact dw_r (some (.inl (some (.int (q2.1 ((x0 + 14) + 3) (Int32.toNatClampNeg x1))), q2))) rfl (fun _ => rfl) (kR _ _)
    refine dw_ts (fun t => Φ t) (fun c2 => ?_) (fun c2 => ?_)
    · refine dw_g rfl ?_
      refine dg_s (pc' := 87) [.ref x0] rfl (fun _ => rfl) rfl ?_
      refine dg_s (pc' := 90) [.ref (x0 + 14)] rfl (fun _ => rfl) rfl ?_
      refine dg_s (pc' := 93) [.ref ((x0 + 14) + 4)] rfl (fun _ => rfl) rfl ?_
      refine dg_s (pc' := 94) [.int x1, .ref ((x0 + 14) + 4)] rfl (fun _ => rfl) rfl ?_
      refine dg_s (pc' := 95) [.int (q2.1 ((x0 + 14) + 4) (Int32.toNatClampNeg x1))] rfl (fun _ => rfl) rfl ?_
      exact dw_r (some (.inl (some (.int (q2.1 ((x0 + 14) + 4) (Int32.toNatClampNeg x1))), q2))) rfl (fun _ => rfl) (kR _ _)
    refine dw_t0 ?_
    refine dw_g rfl ?_
    refine dg_s (pc' := 97) [.ref x0] rfl (fun _ => rfl) rfl ?_
    refine dg_s (pc' := 100) [.ref (x0 + 14)] rfl (fun _ => rfl) rfl ?_
    refine dg_s (pc' := 101) [.int x1, .ref (x0 + 14)] rfl (fun _ => rfl) rfl ?_
    refine dg_s (pc' := 102) [.int x2, .int x1, .ref (x0 + 14)] rfl (fun _ => rfl) rfl ?_
    refine dg_s (pc' := 104) [.int (10 : Int32), .int x2, .int x1, .ref (x0 + 14)] rfl (fun _ => rfl) rfl ?_
    refine dg_s (pc' := 105) [.int (x2 - (10 : Int32)), .int x1, .ref (x0 + 14)] rfl (fun _ => rfl) rfl ?_
    refine dg_s (pc' := 108) [.int (d_X8_cube (x0 + 14) x1 (x2 - (10 : Int32)) q2)] rfl (fun _ => rfl) rfl ?_
    exact dw_r (some (.inl (some (.int (d_X8_cube (x0 + 14) x1 (x2 - (10 : Int32)) q2)), q2))) rfl (fun _ => rfl) (kR _ _)
  · refine dw_g rfl ?_
    refine dg_s (pc' := 38) [.int (-2 : Int32)] rfl (fun _ => rfl) rfl ?_
    exact dw_r (some (.inl (some (.int (-2 : Int32)), q1.2))) rfl (fun _ => rfl) (kR _ _)
noncomputable def d_X9_makes (x0 : Nat) (x1 : Int32) (x2 : Int32) (m : dc_M) : Option (Int32 × dc_M) :=
  (if (Int32.toInt (d_X3_isMade (m.2.2.1 x0 7) x1 m)) = 0 then some (((-1 : Int32), m)) else (if (Int32.toInt x2) < 0 then some (((-1 : Int32), m)) else (if (Int32.toInt x2) ≤ 1 then (d_X9_makes_b28 x0 x1 x2 m) else (if 10 ≤ (Int32.toInt x2) then (d_X9_makes_b28 x0 x1 x2 m) else some (((-1 : Int32), m))))))
set_option maxHeartbeats 8000000 in
theorem k_X9_makes {u : Nat} {N : Nat} {Φ : (Option (Int32 × dc_M)) → Option Value → dc_M → Prop} (x0 : Nat) (x1 : Int32) (x2 : Int32) (m : dc_M) (kR : ∀ (v : Int32) (m : dc_M), Φ (some ((v, m))) (some (.int v)) m)  {lv : ab_L} (f0 : ab_lk lv 0 = some (.ref x0)) (f1 : ab_lk lv 1 = some (.int x1)) (f2 : ab_lk lv 2 = some (.int x2)) : dc_pv u N ab_M_X9_makes 0 lv [] m (Φ (d_X9_makes x0 x1 x2 m)) := by
  refine dc_pv.mono (dc_ok (C := C_X9_makes) (S := S_X9_makes) CO_X9_makes 400 0 [(0, .ref x0), (1, .int x1), (2, .int x2)] lv [] m (dc_sub_cons f0 (dc_sub_cons f1 (dc_sub_cons f2 (dc_sub_nil)))) ?_) (Nat.le_succ N)
  unfold d_X9_makes
  refine dg_s (pc' := 1) [.ref x0] rfl (fun _ => rfl) rfl ?_
  refine dg_s (pc' := 4) [.ref (m.2.2.1 x0 7)] rfl (fun _ => rfl) rfl ?_
  refine dg_s (pc' := 5) [.int x1, .ref (m.2.2.1 x0 7)] rfl (fun _ => rfl) rfl ?_
  refine dg_s (pc' := 8) [.int (d_X3_isMade (m.2.2.1 x0 7) x1 m)] rfl (fun _ => rfl) rfl ?_
  refine dw_if (fun t => Φ t) ((Int32.toInt (d_X3_isMade (m.2.2.1 x0 7) x1 m)) = 0) [] 26 11 rfl (fun _ => rfl) (fun c0 => ?_) (fun c0 => ?_)
  · refine dw_g rfl ?_
    refine dg_s (pc' := 27) [.int (-1 : Int32)] rfl (fun _ => rfl) rfl ?_
    exact dw_r (some (.inl (some (.int (-1 : Int32)), m))) rfl (fun _ => rfl) (kR _ _)
  · refine dw_g rfl ?_
    refine dg_s (pc' := 12) [.int x2] rfl (fun _ => rfl) rfl ?_
    refine dw_if (fun t => Φ t) ((Int32.toInt x2) < 0) [] 26 15 rfl (fun _ => rfl) (fun c1 => ?_) (fun c1 => ?_)
    · refine dw_g rfl ?_
      refine dg_s (pc' := 27) [.int (-1 : Int32)] rfl (fun _ => rfl) rfl ?_
      exact dw_r (some (.inl (some (.int (-1 : Int32)), m))) rfl (fun _ => rfl) (kR _ _)
    · refine dw_g rfl ?_
      refine dg_s (pc' := 16) [.int x2] rfl (fun _ => rfl) rfl ?_
      refine dg_s (pc' := 17) [.int (1 : Int32), .int x2] rfl (fun _ => rfl) rfl ?_
      refine dw_if (fun t => Φ t) ((Int32.toInt x2) ≤ 1) [] 28 20 rfl (fun _ => rfl) (fun c2 => ?_) (fun c2 => ?_)
      · exact dw_j rfl (fun lv1 hv => k_X9_makes_b28 (Φ := (fun t => Φ t)) x0 x1 x2 m (fun _a _b => kR _a _b)  (hv.1 _ rfl) (hv.2.1 _ rfl) (hv.2.2.1 _ rfl))
      · refine dw_g rfl ?_
        refine dg_s (pc' := 21) [.int x2] rfl (fun _ => rfl) rfl ?_
        refine dg_s (pc' := 23) [.int (10 : Int32), .int x2] rfl (fun _ => rfl) rfl ?_
        refine dw_if (fun t => Φ t) (10 ≤ (Int32.toInt x2)) [] 28 26 rfl (fun _ => rfl) (fun c3 => ?_) (fun c3 => ?_)
        · exact dw_j rfl (fun lv1 hv => k_X9_makes_b28 (Φ := (fun t => Φ t)) x0 x1 x2 m (fun _a _b => kR _a _b)  (hv.1 _ rfl) (hv.2.1 _ rfl) (hv.2.2.1 _ rfl))
        · refine dw_g rfl ?_
          refine dg_s (pc' := 27) [.int (-1 : Int32)] rfl (fun _ => rfl) rfl ?_
          exact dw_r (some (.inl (some (.int (-1 : Int32)), m))) rfl (fun _ => rfl) (kR _ _)
noncomputable def H_X9_makes : dc_H := fun As m k => match As with
  | [.ref x0, .int x1, .int x2] => (d_X9_makes x0 x1 x2 m).bind (fun q => k (some (.int q.1)) q.2)
  | _ => dc_kz
theorem H_X9_makes_ok {u : Nat} : dc_cok u 115 H_X9_makes := fun M' hG N As m k P hz hP => by
  obtain rfl : ab_M_X9_makes = M' := Option.some.inj hG
  unfold H_X9_makes at hP
  split at hP
  · rename_i x0 x1 x2
    exact dc_pv.imp (k_X9_makes (Φ := fun (t : Option (Int32 × dc_M)) r m' => P (t.bind (fun q => k (some (.int q.1)) q.2)) → P (k r m')) x0 x1 x2 m (fun _ _ h => h) rfl rfl rfl) (fun r m' h => h hP)
  · exact absurd hP hz
noncomputable def C_X9_cost : List (Nat × dc_H) := [(28, H_X3_isMade), (97, H_X8_solve), (138, H_X9_canBeMade), (135, H_X9_isRight)]
theorem CO_X9_cost {u : Nat} : dc_CO u C_X9_cost := dc_CO_cons H_X3_isMade_ok (dc_CO_cons H_X8_solve_ok (dc_CO_cons H_X9_canBeMade_ok (dc_CO_cons H_X9_isRight_ok (dc_CO_nil))))
def S_X9_cost : List (Nat × List Nat) := [(14, [0, 1, 2])]
noncomputable def d_X9_cost_l14b (x0 : Nat) (x1 : Int32) (x2 : Int32) (m : dc_M) : Option ((Int32 × Int32 × dc_M) ⊕ (Int32 × dc_M)) :=
  (if (Int32.toInt (m.1 (m.2.2.1 x0 7) 0)) ≤ (Int32.toInt x2) then some (Sum.inr ((x1, m))) else (if ¬ (Int32.toInt (d_X3_isMade (m.2.2.1 x0 7) x2 m)) = 0 then ((d_X9_canBeMade x0 x2 m).bind (fun q1 => (if ¬ (Int32.toInt q1.1) = 0 then ((d_X8_solve (x0 + 14) x2 q1.2).bind (fun q2 => some (Sum.inl ((x1 + (q2.1 ((x0 + 14) + 4) (Int32.toNatClampNeg x2))), (x2 + (1 : Int32)), q2)))) else some (Sum.inr (((-2 : Int32), q1.2)))))) else some (Sum.inl (x1, (x2 + (1 : Int32)), m))))
noncomputable def d_X9_cost_l14s (x0 : Nat) : (Int32 × Int32 × dc_M) → Option ((Int32 × Int32 × dc_M) ⊕ (Int32 × dc_M)) := fun s => d_X9_cost_l14b x0 s.1 s.2.1 s.2.2
noncomputable def d_X9_cost_l14 (x0 : Nat) (x1 : Int32) (x2 : Int32) (m : dc_M) : Option (Int32 × dc_M) := dc_lp (d_X9_cost_l14s x0) (x1, x2, m)
set_option maxHeartbeats 8000000 in
theorem k_X9_cost_l14 {u : Nat} {Φ : (Option (Int32 × dc_M)) → Option Value → dc_M → Prop} (x0 : Nat) (kR : ∀ (v : Int32) (m : dc_M), Φ (some ((v, m))) (some (.int v)) m) : ∀ (N : Nat), ∀ (x1 : Int32) (x2 : Int32) (m : dc_M) (lv : ab_L), ab_lk lv 0 = some (.ref x0) → ab_lk lv 1 = some (.int x1) → ab_lk lv 2 = some (.int x2) → dc_pv u N ab_M_X9_cost 14 lv [] m (Φ (d_X9_cost_l14 x0 x1 x2 m)) := by
  intro N
  induction N with
  | zero => intros; exact dc_pv_zero
  | succ N ih =>
    intro x1 x2 m lv f0 f1 f2
    refine dc_ok (C := C_X9_cost) (S := S_X9_cost) CO_X9_cost 400 14 [(0, .ref x0), (1, .int x1), (2, .int x2)] lv [] m (dc_sub_cons f0 (dc_sub_cons f1 (dc_sub_cons f2 (dc_sub_nil)))) ?_
    unfold d_X9_cost_l14
    rw [dc_lp_eq]
    show (fun t x => dc_lf u N ab_M_X9_cost (Φ (Option.bind t (dc_bk (d_X9_cost_l14s x0)))) x) (d_X9_cost_l14b x0 x1 x2 m) _
    dsimp only
    unfold d_X9_cost_l14b
    refine dg_s (pc' := 15) [.int x2] rfl (fun _ => rfl) rfl ?_
    refine dg_s (pc' := 16) [.ref x0, .int x2] rfl (fun _ => rfl) rfl ?_
    refine dg_s (pc' := 19) [.ref (m.2.2.1 x0 7), .int x2] rfl (fun _ => rfl) rfl ?_
    refine dg_s (pc' := 22) [.int (m.1 (m.2.2.1 x0 7) 0), .int x2] rfl (fun _ => rfl) rfl ?_
    refine dw_if (fun t => Φ (Option.bind t (dc_bk (d_X9_cost_l14s x0)))) ((Int32.toInt (m.1 (m.2.2.1 x0 7) 0)) ≤ (Int32.toInt x2)) [] 76 25 rfl (fun _ => rfl) (fun c0 => ?_) (fun c0 => ?_)
    · refine dw_g rfl ?_
      refine dg_s (pc' := 77) [.int x1] rfl (fun _ => rfl) rfl ?_
      exact dw_r (some (.inl (some (.int x1), m))) rfl (fun _ => rfl) (kR _ _)
    · refine dw_g rfl ?_
      refine dg_s (pc' := 26) [.ref x0] rfl (fun _ => rfl) rfl ?_
      refine dg_s (pc' := 29) [.ref (m.2.2.1 x0 7)] rfl (fun _ => rfl) rfl ?_
      refine dg_s (pc' := 30) [.int x2, .ref (m.2.2.1 x0 7)] rfl (fun _ => rfl) rfl ?_
      refine dg_s (pc' := 33) [.int (d_X3_isMade (m.2.2.1 x0 7) x2 m)] rfl (fun _ => rfl) rfl ?_
      refine dw_if (fun t => Φ (Option.bind t (dc_bk (d_X9_cost_l14s x0)))) (¬ (Int32.toInt (d_X3_isMade (m.2.2.1 x0 7) x2 m)) = 0) [] 39 36 rfl (fun _ => rfl) (fun c1 => ?_) (fun c1 => ?_)
      · refine dw_g rfl ?_
        refine dg_s (pc' := 40) [.ref x0] rfl (fun _ => rfl) rfl ?_
        refine dg_s (pc' := 41) [.int x2, .ref x0] rfl (fun _ => rfl) rfl ?_
        refine dw_b (fun t => Φ (Option.bind t (dc_bk (d_X9_cost_l14s x0)))) (pc' := 44) (fun q1 => [.int q1.1]) (fun q1 => q1.2) rfl (fun _ => rfl) (fun q1 => ?_)
        refine dw_g rfl ?_
        refine dw_if (fun t => Φ (Option.bind t (dc_bk (d_X9_cost_l14s x0)))) (¬ (Int32.toInt q1.1) = 0) [] 50 47 rfl (fun _ => rfl) (fun c2 => ?_) (fun c2 => ?_)
        · refine dw_g rfl ?_
          refine dg_s (pc' := 51) [.ref x0] rfl (fun _ => rfl) rfl ?_
          refine dg_s (pc' := 54) [.ref (x0 + 14)] rfl (fun _ => rfl) rfl ?_
          refine dg_s (pc' := 55) [.int x2, .ref (x0 + 14)] rfl (fun _ => rfl) rfl ?_
          refine dw_b (fun t => Φ (Option.bind t (dc_bk (d_X9_cost_l14s x0)))) (pc' := 58) (fun q2 => []) (fun q2 => q2) rfl (fun _ => rfl) (fun q2 => ?_)
          refine dw_g rfl ?_
          refine dg_s (pc' := 59) [.int x1] rfl (fun _ => rfl) rfl ?_
          refine dg_s (pc' := 60) [.ref x0, .int x1] rfl (fun _ => rfl) rfl ?_
          refine dg_s (pc' := 63) [.ref (x0 + 14), .int x1] rfl (fun _ => rfl) rfl ?_
          refine dg_s (pc' := 66) [.ref ((x0 + 14) + 4), .int x1] rfl (fun _ => rfl) rfl ?_
          refine dg_s (pc' := 67) [.int x2, .ref ((x0 + 14) + 4), .int x1] rfl (fun _ => rfl) rfl ?_
          refine dg_s (pc' := 68) [.int (q2.1 ((x0 + 14) + 4) (Int32.toNatClampNeg x2)), .int x1] rfl (fun _ => rfl) rfl ?_
          refine dg_s (pc' := 69) [.int (x1 + (q2.1 ((x0 + 14) + 4) (Int32.toNatClampNeg x2)))] rfl (fun _ => rfl) rfl ?_
          refine dg_L (pc' := 70) [(1, .int (x1 + (q2.1 ((x0 + 14) + 4) (Int32.toNatClampNeg x2)))), (0, .ref x0), (2, .int x2)] [] rfl (fun _ => rfl) rfl ?_
          refine dg_L (pc' := 73) [(2, .int (x2 + (1 : Int32))), (1, .int (x1 + (q2.1 ((x0 + 14) + 4) (Int32.toNatClampNeg x2)))), (0, .ref x0)] [] rfl (fun _ => rfl) rfl ?_
          refine dw_s (pc' := 14) [] rfl (fun _ => rfl) ?_
          exact dw_j rfl (fun lv1 hv => ih (x1 + (q2.1 ((x0 + 14) + 4) (Int32.toNatClampNeg x2))) (x2 + (1 : Int32)) q2 lv1 (hv.1 _ rfl) (hv.2.1 _ rfl) (hv.2.2.1 _ rfl))
        · refine dw_g rfl ?_
          refine dg_s (pc' := 49) [.int (-2 : Int32)] rfl (fun _ => rfl) rfl ?_
          exact dw_r (some (.inl (some (.int (-2 : Int32)), q1.2))) rfl (fun _ => rfl) (kR _ _)
      · refine dw_g rfl ?_
        refine dg_s (pc' := 70) [] rfl (fun _ => rfl) rfl ?_
        refine dg_L (pc' := 73) [(2, .int (x2 + (1 : Int32))), (0, .ref x0), (1, .int x1)] [] rfl (fun _ => rfl) rfl ?_
        refine dw_s (pc' := 14) [] rfl (fun _ => rfl) ?_
        exact dw_j rfl (fun lv1 hv => ih x1 (x2 + (1 : Int32)) m lv1 (hv.1 _ rfl) (hv.2.1 _ rfl) (hv.2.2.1 _ rfl))
noncomputable def d_X9_cost (x0 : Nat) (m : dc_M) : Option (Int32 × dc_M) :=
  ((d_X9_isRight x0 m).bind (fun q1 => (if ¬ (Int32.toInt q1.1) = 0 then (d_X9_cost_l14 x0 (0 : Int32) (0 : Int32) q1.2) else some (((-2 : Int32), q1.2)))))
set_option maxHeartbeats 8000000 in
theorem k_X9_cost {u : Nat} {N : Nat} {Φ : (Option (Int32 × dc_M)) → Option Value → dc_M → Prop} (x0 : Nat) (m : dc_M) (kR : ∀ (v : Int32) (m : dc_M), Φ (some ((v, m))) (some (.int v)) m)  {lv : ab_L} (f0 : ab_lk lv 0 = some (.ref x0)) : dc_pv u N ab_M_X9_cost 0 lv [] m (Φ (d_X9_cost x0 m)) := by
  refine dc_pv.mono (dc_ok (C := C_X9_cost) (S := S_X9_cost) CO_X9_cost 400 0 [(0, .ref x0)] lv [] m (dc_sub_cons f0 (dc_sub_nil)) ?_) (Nat.le_succ N)
  unfold d_X9_cost
  refine dg_s (pc' := 1) [.ref x0] rfl (fun _ => rfl) rfl ?_
  refine dw_b (fun t => Φ t) (pc' := 4) (fun q1 => [.int q1.1]) (fun q1 => q1.2) rfl (fun _ => rfl) (fun q1 => ?_)
  refine dw_g rfl ?_
  refine dw_if (fun t => Φ t) (¬ (Int32.toInt q1.1) = 0) [] 10 7 rfl (fun _ => rfl) (fun c0 => ?_) (fun c0 => ?_)
  · refine dw_g rfl ?_
    refine dg_s (pc' := 11) [.int (0 : Int32)] rfl (fun _ => rfl) rfl ?_
    refine dg_L (pc' := 12) [(1, .int (0 : Int32)), (0, .ref x0)] [] rfl (fun _ => rfl) rfl ?_
    refine dg_s (pc' := 13) [.int (0 : Int32)] rfl (fun _ => rfl) rfl ?_
    refine dw_L (pc' := 14) [(2, .int (0 : Int32)), (1, .int (0 : Int32)), (0, .ref x0)] [] rfl (fun _ => rfl) ?_
    exact dw_j rfl (fun lv1 hv => k_X9_cost_l14 (Φ := (fun t => Φ t)) x0 (fun _a _b => kR _a _b) N  (0 : Int32) (0 : Int32) q1.2 lv1 (hv.1 _ rfl) (hv.2.1 _ rfl) (hv.2.2.1 _ rfl))
  · refine dw_g rfl ?_
    refine dg_s (pc' := 9) [.int (-2 : Int32)] rfl (fun _ => rfl) rfl ?_
    exact dw_r (some (.inl (some (.int (-2 : Int32)), q1.2))) rfl (fun _ => rfl) (kR _ _)
noncomputable def H_X9_cost : dc_H := fun As m k => match As with
  | [.ref x0] => (d_X9_cost x0 m).bind (fun q => k (some (.int q.1)) q.2)
  | _ => dc_kz
theorem H_X9_cost_ok {u : Nat} : dc_cok u 117 H_X9_cost := fun M' hG N As m k P hz hP => by
  obtain rfl : ab_M_X9_cost = M' := Option.some.inj hG
  unfold H_X9_cost at hP
  split at hP
  · rename_i x0
    exact dc_pv.imp (k_X9_cost (Φ := fun (t : Option (Int32 × dc_M)) r m' => P (t.bind (fun q => k (some (.int q.1)) q.2)) → P (k r m')) x0 m (fun _ _ h => h) rfl) (fun r m' h => h hP)
  · exact absurd hP hz
def C_X10_hardest : List (Nat × dc_H) := []
theorem CO_X10_hardest {u : Nat} : dc_CO u C_X10_hardest := dc_CO_nil
def S_X10_hardest : List (Nat × List Nat) := [(11, [0, 1, 3, 4, 5]), (35, [0, 1, 3, 4, 5, 6, 7]), (68, [0, 1, 3, 4, 5, 6]), (81, [0, 1, 4, 5, 6])]
noncomputable def d_X10_hardest_b81 (x0 : Nat) (x1 : Int64) (x4 : Int32) (x5 : Int32) (x6 : Int32) (s0 : Int32) (m : dc_M) : Option ((Int32 × Int32 × Int32) ⊕ Int32) :=
  (if (Int32.toInt x4) ≤ (Int32.toInt x6) then some (Sum.inl (s0, x4, (x5 + (1 : Int32)))) else some (Sum.inl (s0, x6, (x5 + (1 : Int32)))))
set_option maxHeartbeats 8000000 in
theorem k_X10_hardest_b81 {u : Nat} {N : Nat} {Φ : (Option ((Int32 × Int32 × Int32) ⊕ Int32)) → Option Value → dc_M → Prop} (x0 : Nat) (x1 : Int64) (x4 : Int32) (x5 : Int32) (x6 : Int32) (s0 : Int32) (m : dc_M) (kR : ∀ (v : Int32), Φ (some (Sum.inr (v))) (some (.int v)) m) (k11 : ∀ (x3 : Int32) (x4 : Int32) (x5 : Int32) (lv : ab_L), ab_lk lv 0 = some (.ref x0) → ab_lk lv 1 = some (.long x1) → ab_lk lv 3 = some (.int x3) → ab_lk lv 4 = some (.int x4) → ab_lk lv 5 = some (.int x5) →  dc_pv u N ab_M_X10_hardest 11 lv [] m (Φ (some (Sum.inl (x3, x4, x5))))) {lv : ab_L} (f0 : ab_lk lv 0 = some (.ref x0)) (f1 : ab_lk lv 1 = some (.long x1)) (f4 : ab_lk lv 4 = some (.int x4)) (f5 : ab_lk lv 5 = some (.int x5)) (f6 : ab_lk lv 6 = some (.int x6)) : dc_pv u N ab_M_X10_hardest 81 lv [.int s0] m (Φ (d_X10_hardest_b81 x0 x1 x4 x5 x6 s0 m)) := by
  refine dc_pv.mono (dc_ok (C := C_X10_hardest) (S := S_X10_hardest) CO_X10_hardest 400 81 [(0, .ref x0), (1, .long x1), (4, .int x4), (5, .int x5), (6, .int x6)] lv [.int s0] m (dc_sub_cons f0 (dc_sub_cons f1 (dc_sub_cons f4 (dc_sub_cons f5 (dc_sub_cons f6 (dc_sub_nil)))))) ?_) (Nat.le_succ N)
  unfold d_X10_hardest_b81
  refine dg_L (pc' := 82) [(3, .int s0), (0, .ref x0), (1, .long x1), (4, .int x4), (5, .int x5), (6, .int x6)] [] rfl (fun _ => rfl) rfl ?_
  refine dg_s (pc' := 84) [.int x6] rfl (fun _ => rfl) rfl ?_
  refine dg_s (pc' := 86) [.int x4, .int x6] rfl (fun _ => rfl) rfl ?_
  refine dw_if (fun t => Φ t) ((Int32.toInt x4) ≤ (Int32.toInt x6)) [] 94 89 rfl (fun _ => rfl) (fun c0 => ?_) (fun c0 => ?_)
  · refine dw_g rfl ?_
    refine dg_s (pc' := 96) [.int x4] rfl (fun _ => rfl) rfl ?_
    refine dg_L (pc' := 98) [(4, .int x4), (3, .int s0), (0, .ref x0), (1, .long x1), (5, .int x5), (6, .int x6)] [] rfl (fun _ => rfl) rfl ?_
    refine dg_L (pc' := 101) [(5, .int (x5 + (1 : Int32))), (4, .int x4), (3, .int s0), (0, .ref x0), (1, .long x1), (6, .int x6)] [] rfl (fun _ => rfl) rfl ?_
    refine dw_s (pc' := 11) [] rfl (fun _ => rfl) ?_
    exact dw_j rfl (fun lv1 hv => k11 s0 x4 (x5 + (1 : Int32)) lv1 (hv.1 _ rfl) (hv.2.1 _ rfl) (hv.2.2.1 _ rfl) (hv.2.2.2.1 _ rfl) (hv.2.2.2.2.1 _ rfl))
  · refine dw_g rfl ?_
    refine dg_s (pc' := 91) [.int x6] rfl (fun _ => rfl) rfl ?_
    refine dg_s (pc' := 96) [.int x6] rfl (fun _ => rfl) rfl ?_
    refine dg_L (pc' := 98) [(4, .int x6), (3, .int s0), (0, .ref x0), (1, .long x1), (5, .int x5), (6, .int x6)] [] rfl (fun _ => rfl) rfl ?_
    refine dg_L (pc' := 101) [(5, .int (x5 + (1 : Int32))), (4, .int x6), (3, .int s0), (0, .ref x0), (1, .long x1), (6, .int x6)] [] rfl (fun _ => rfl) rfl ?_
    refine dw_s (pc' := 11) [] rfl (fun _ => rfl) ?_
    exact dw_j rfl (fun lv1 hv => k11 s0 x6 (x5 + (1 : Int32)) lv1 (hv.1 _ rfl) (hv.2.1 _ rfl) (hv.2.2.1 _ rfl) (hv.2.2.2.1 _ rfl) (hv.2.2.2.2.1 _ rfl))
noncomputable def d_X10_hardest_b68 (x0 : Nat) (x1 : Int64) (x3 : Int32) (x4 : Int32) (x5 : Int32) (x6 : Int32) (m : dc_M) : Option ((Int32 × Int32 × Int32) ⊕ Int32) :=
  (if (Int32.toInt x4) ≤ (Int32.toInt x6) then (d_X10_hardest_b81 x0 x1 x4 x5 x6 x3 m) else (d_X10_hardest_b81 x0 x1 x4 x5 x6 x5 m))
set_option maxHeartbeats 8000000 in
theorem k_X10_hardest_b68 {u : Nat} {N : Nat} {Φ : (Option ((Int32 × Int32 × Int32) ⊕ Int32)) → Option Value → dc_M → Prop} (x0 : Nat) (x1 : Int64) (x3 : Int32) (x4 : Int32) (x5 : Int32) (x6 : Int32) (m : dc_M) (kR : ∀ (v : Int32), Φ (some (Sum.inr (v))) (some (.int v)) m) (k11 : ∀ (x3 : Int32) (x4 : Int32) (x5 : Int32) (lv : ab_L), ab_lk lv 0 = some (.ref x0) → ab_lk lv 1 = some (.long x1) → ab_lk lv 3 = some (.int x3) → ab_lk lv 4 = some (.int x4) → ab_lk lv 5 = some (.int x5) →  dc_pv u N ab_M_X10_hardest 11 lv [] m (Φ (some (Sum.inl (x3, x4, x5))))) {lv : ab_L} (f0 : ab_lk lv 0 = some (.ref x0)) (f1 : ab_lk lv 1 = some (.long x1)) (f3 : ab_lk lv 3 = some (.int x3)) (f4 : ab_lk lv 4 = some (.int x4)) (f5 : ab_lk lv 5 = some (.int x5)) (f6 : ab_lk lv 6 = some (.int x6)) : dc_pv u N ab_M_X10_hardest 68 lv [] m (Φ (d_X10_hardest_b68 x0 x1 x3 x4 x5 x6 m)) := by
  refine dc_pv.mono (dc_ok (C := C_X10_hardest) (S := S_X10_hardest) CO_X10_hardest 400 68 [(0, .ref x0), (1, .long x1), (3, .int x3), (4, .int x4), (5, .int x5), (6, .int x6)] lv [] m (dc_sub_cons f0 (dc_sub_cons f1 (dc_sub_cons f3 (dc_sub_cons f4 (dc_sub_cons f5 (dc_sub_cons f6 (dc_sub_nil))))))) ?_) (Nat.le_succ N)
  unfold d_X10_hardest_b68
  refine dg_s (pc' := 70) [.int x6] rfl (fun _ => rfl) rfl ?_
  refine dg_s (pc' := 72) [.int x4, .int x6] rfl (fun _ => rfl) rfl ?_
  refine dw_if (fun t => Φ t) ((Int32.toInt x4) ≤ (Int32.toInt x6)) [] 80 75 rfl (fun _ => rfl) (fun c0 => ?_) (fun c0 => ?_)
  · refine dw_g rfl ?_
    refine dw_s (pc' := 81) [.int x3] rfl (fun _ => rfl) ?_
    exact dw_j rfl (fun lv1 hv => k_X10_hardest_b81 (Φ := (fun t => Φ t)) x0 x1 x4 x5 x6 x3 m (fun _a  => kR _a) k11 (hv.1 _ rfl) (hv.2.1 _ rfl) (hv.2.2.1 _ rfl) (hv.2.2.2.1 _ rfl) (hv.2.2.2.2.1 _ rfl))
  · refine dw_g rfl ?_
    refine dg_s (pc' := 77) [.int x5] rfl (fun _ => rfl) rfl ?_
    refine dw_s (pc' := 81) [.int x5] rfl (fun _ => rfl) ?_
    exact dw_j rfl (fun lv1 hv => k_X10_hardest_b81 (Φ := (fun t => Φ t)) x0 x1 x4 x5 x6 x5 m (fun _a  => kR _a) k11 (hv.1 _ rfl) (hv.2.1 _ rfl) (hv.2.2.1 _ rfl) (hv.2.2.2.1 _ rfl) (hv.2.2.2.2.1 _ rfl))
noncomputable def d_X10_hardest_l35b (x0 : Nat) (x1 : Int64) (x3 : Int32) (x4 : Int32) (x5 : Int32) (x6 : Int32) (x7 : Int32) (m : dc_M) : Option ((Int32 × Int32) ⊕ ((Int32 × Int32 × Int32) ⊕ Int32)) :=
  (if (Int32.toInt (m.1 x0 49)) ≤ (Int32.toInt x7) then ((d_X10_hardest_b68 x0 x1 x3 x4 x5 x6 m).map (fun z => Sum.inr (z))) else some (Sum.inl ((x6 + (Int64.toInt32 (((m.2.1 (x0 + 22) (Int32.toNatClampNeg x7)) >>> (Int32.toInt64 x5 &&& 63)) &&& (1 : Int64)))), (x7 + (1 : Int32)))))
noncomputable def d_X10_hardest_l35s (x0 : Nat) (x1 : Int64) (x3 : Int32) (x4 : Int32) (x5 : Int32) (m : dc_M) : (Int32 × Int32) → Option ((Int32 × Int32) ⊕ ((Int32 × Int32 × Int32) ⊕ Int32)) := fun s => d_X10_hardest_l35b x0 x1 x3 x4 x5 s.1 s.2 m
noncomputable def d_X10_hardest_l35 (x0 : Nat) (x1 : Int64) (x3 : Int32) (x4 : Int32) (x5 : Int32) (x6 : Int32) (x7 : Int32) (m : dc_M) : Option ((Int32 × Int32 × Int32) ⊕ Int32) := dc_lp (d_X10_hardest_l35s x0 x1 x3 x4 x5 m) (x6, x7)
set_option maxHeartbeats 8000000 in
theorem k_X10_hardest_l35 {u : Nat} {Φ : (Option ((Int32 × Int32 × Int32) ⊕ Int32)) → Option Value → dc_M → Prop} (x0 : Nat) (x1 : Int64) (x3 : Int32) (x4 : Int32) (x5 : Int32) (m : dc_M) (kR : ∀ (v : Int32), Φ (some (Sum.inr (v))) (some (.int v)) m) : ∀ (N : Nat), (∀ (x3 : Int32) (x4 : Int32) (x5 : Int32) (lv : ab_L), ab_lk lv 0 = some (.ref x0) → ab_lk lv 1 = some (.long x1) → ab_lk lv 3 = some (.int x3) → ab_lk lv 4 = some (.int x4) → ab_lk lv 5 = some (.int x5) →  dc_pv u N ab_M_X10_hardest 11 lv [] m (Φ (some (Sum.inl (x3, x4, x5))))) → ∀ (x6 : Int32) (x7 : Int32) (lv : ab_L), ab_lk lv 0 = some (.ref x0) → ab_lk lv 1 = some (.long x1) → ab_lk lv 3 = some (.int x3) → ab_lk lv 4 = some (.int x4) → ab_lk lv 5 = some (.int x5) → ab_lk lv 6 = some (.int x6) → ab_lk lv 7 = some (.int x7) → dc_pv u N ab_M_X10_hardest 35 lv [] m (Φ (d_X10_hardest_l35 x0 x1 x3 x4 x5 x6 x7 m)) := by
  intro N
  induction N with
  | zero => intros; exact dc_pv_zero
  | succ N ih =>
    intro k11 x6 x7 lv f0 f1 f3 f4 f5 f6 f7
    have k11 := fun a0 a1 a2 a3 a4 a5 a6 a7 a8 => (k11 a0 a1 a2 a3 a4 a5 a6 a7 a8).mono (Nat.le_succ N)
    have ih := ih k11
    refine dc_ok (C := C_X10_hardest) (S := S_X10_hardest) CO_X10_hardest 400 35 [(0, .ref x0), (1, .long x1), (3, .int x3), (4, .int x4), (5, .int x5), (6, .int x6), (7, .int x7)] lv [] m (dc_sub_cons f0 (dc_sub_cons f1 (dc_sub_cons f3 (dc_sub_cons f4 (dc_sub_cons f5 (dc_sub_cons f6 (dc_sub_cons f7 (dc_sub_nil)))))))) ?_
    unfold d_X10_hardest_l35
    rw [dc_lp_eq]
    show (fun t x => dc_lf u N ab_M_X10_hardest (Φ (Option.bind t (dc_bk (d_X10_hardest_l35s x0 x1 x3 x4 x5 m)))) x) (d_X10_hardest_l35b x0 x1 x3 x4 x5 x6 x7 m) _
    dsimp only
    unfold d_X10_hardest_l35b
    refine dg_s (pc' := 37) [.int x7] rfl (fun _ => rfl) rfl ?_
    refine dg_s (pc' := 38) [.ref x0, .int x7] rfl (fun _ => rfl) rfl ?_
    refine dg_s (pc' := 41) [.int (m.1 x0 49), .int x7] rfl (fun _ => rfl) rfl ?_
    refine dw_if (fun t => Φ (Option.bind t (dc_bk (d_X10_hardest_l35s x0 x1 x3 x4 x5 m)))) ((Int32.toInt (m.1 x0 49)) ≤ (Int32.toInt x7)) [] 68 44 rfl (fun _ => rfl) (fun c0 => ?_) (fun c0 => ?_)
    · exact dw_j rfl (fun lv1 hv => k_X10_hardest_b68 (Φ := (fun t => Φ (Option.bind (t.map (fun z => Sum.inr (z))) (dc_bk (d_X10_hardest_l35s x0 x1 x3 x4 x5 m))))) x0 x1 x3 x4 x5 x6 m (fun _a  => kR _a) k11 (hv.1 _ rfl) (hv.2.1 _ rfl) (hv.2.2.1 _ rfl) (hv.2.2.2.1 _ rfl) (hv.2.2.2.2.1 _ rfl) (hv.2.2.2.2.2.1 _ rfl))
    · refine dw_g rfl ?_
      refine dg_s (pc' := 46) [.int x6] rfl (fun _ => rfl) rfl ?_
      refine dg_s (pc' := 47) [.ref x0, .int x6] rfl (fun _ => rfl) rfl ?_
      refine dg_s (pc' := 50) [.ref (x0 + 22), .int x6] rfl (fun _ => rfl) rfl ?_
      refine dg_s (pc' := 52) [.int x7, .ref (x0 + 22), .int x6] rfl (fun _ => rfl) rfl ?_
      refine dg_s (pc' := 53) [.long (m.2.1 (x0 + 22) (Int32.toNatClampNeg x7)), .int x6] rfl (fun _ => rfl) rfl ?_
      refine dg_s (pc' := 55) [.int x5, .long (m.2.1 (x0 + 22) (Int32.toNatClampNeg x7)), .int x6] rfl (fun _ => rfl) rfl ?_
      refine dg_s (pc' := 56) [.long ((m.2.1 (x0 + 22) (Int32.toNatClampNeg x7)) >>> (Int32.toInt64 x5 &&& 63)), .int x6] rfl (fun _ => rfl) rfl ?_
      refine dg_s (pc' := 57) [.long (1 : Int64), .long ((m.2.1 (x0 + 22) (Int32.toNatClampNeg x7)) >>> (Int32.toInt64 x5 &&& 63)), .int x6] rfl (fun _ => rfl) rfl ?_
      refine dg_s (pc' := 58) [.long (((m.2.1 (x0 + 22) (Int32.toNatClampNeg x7)) >>> (Int32.toInt64 x5 &&& 63)) &&& (1 : Int64)), .int x6] rfl (fun _ => rfl) rfl ?_
      refine dg_s (pc' := 59) [.int (Int64.toInt32 (((m.2.1 (x0 + 22) (Int32.toNatClampNeg x7)) >>> (Int32.toInt64 x5 &&& 63)) &&& (1 : Int64))), .int x6] rfl (fun _ => rfl) rfl ?_
      refine dg_s (pc' := 60) [.int (x6 + (Int64.toInt32 (((m.2.1 (x0 + 22) (Int32.toNatClampNeg x7)) >>> (Int32.toInt64 x5 &&& 63)) &&& (1 : Int64))))] rfl (fun _ => rfl) rfl ?_
      refine dg_L (pc' := 62) [(6, .int (x6 + (Int64.toInt32 (((m.2.1 (x0 + 22) (Int32.toNatClampNeg x7)) >>> (Int32.toInt64 x5 &&& 63)) &&& (1 : Int64))))), (0, .ref x0), (1, .long x1), (3, .int x3), (4, .int x4), (5, .int x5), (7, .int x7)] [] rfl (fun _ => rfl) rfl ?_
      refine dg_L (pc' := 65) [(7, .int (x7 + (1 : Int32))), (6, .int (x6 + (Int64.toInt32 (((m.2.1 (x0 + 22) (Int32.toNatClampNeg x7)) >>> (Int32.toInt64 x5 &&& 63)) &&& (1 : Int64))))), (0, .ref x0), (1, .long x1), (3, .int x3), (4, .int x4), (5, .int x5)] [] rfl (fun _ => rfl) rfl ?_
      refine dw_s (pc' := 35) [] rfl (fun _ => rfl) ?_
      exact dw_j rfl (fun lv1 hv => ih (x6 + (Int64.toInt32 (((m.2.1 (x0 + 22) (Int32.toNatClampNeg x7)) >>> (Int32.toInt64 x5 &&& 63)) &&& (1 : Int64)))) (x7 + (1 : Int32)) lv1 (hv.1 _ rfl) (hv.2.1 _ rfl) (hv.2.2.1 _ rfl) (hv.2.2.2.1 _ rfl) (hv.2.2.2.2.1 _ rfl) (hv.2.2.2.2.2.1 _ rfl) (hv.2.2.2.2.2.2.1 _ rfl))
noncomputable def d_X10_hardest_l11b (x0 : Nat) (x1 : Int64) (x3 : Int32) (x4 : Int32) (x5 : Int32) (m : dc_M) : Option ((Int32 × Int32 × Int32) ⊕ Int32) :=
  (if 64 ≤ (Int32.toInt x5) then some (Sum.inr (x3)) else (if ¬ (Int32.toInt (lg_cmp ((x1 >>> (Int32.toInt64 x5 &&& 63)) &&& (1 : Int64)) (1 : Int64))) = 0 then some (Sum.inl (x3, x4, (x5 + (1 : Int32)))) else (d_X10_hardest_l35 x0 x1 x3 x4 x5 (0 : Int32) (0 : Int32) m)))
noncomputable def d_X10_hardest_l11s (x0 : Nat) (x1 : Int64) (m : dc_M) : (Int32 × Int32 × Int32) → Option ((Int32 × Int32 × Int32) ⊕ Int32) := fun s => d_X10_hardest_l11b x0 x1 s.1 s.2.1 s.2.2 m
noncomputable def d_X10_hardest_l11 (x0 : Nat) (x1 : Int64) (x3 : Int32) (x4 : Int32) (x5 : Int32) (m : dc_M) : Option Int32 := dc_lp (d_X10_hardest_l11s x0 x1 m) (x3, x4, x5)
set_option maxHeartbeats 8000000 in
theorem k_X10_hardest_l11 {u : Nat} {Φ : (Option Int32) → Option Value → dc_M → Prop} (x0 : Nat) (x1 : Int64) (m : dc_M) (kR : ∀ (v : Int32), Φ (some (v)) (some (.int v)) m) : ∀ (N : Nat), ∀ (x3 : Int32) (x4 : Int32) (x5 : Int32) (lv : ab_L), ab_lk lv 0 = some (.ref x0) → ab_lk lv 1 = some (.long x1) → ab_lk lv 3 = some (.int x3) → ab_lk lv 4 = some (.int x4) → ab_lk lv 5 = some (.int x5) → dc_pv u N ab_M_X10_hardest 11 lv [] m (Φ (d_X10_hardest_l11 x0 x1 x3 x4 x5 m)) := by
  intro N
  induction N with
  | zero => intros; exact dc_pv_zero
  | succ N ih =>
    intro x3 x4 x5 lv f0 f1 f3 f4 f5
    refine dc_ok (C := C_X10_hardest) (S := S_X10_hardest) CO_X10_hardest 400 11 [(0, .ref x0), (1, .long x1), (3, .int x3), (4, .int x4), (5, .int x5)] lv [] m (dc_sub_cons f0 (dc_sub_cons f1 (dc_sub_cons f3 (dc_sub_cons f4 (dc_sub_cons f5 (dc_sub_nil)))))) ?_
    unfold d_X10_hardest_l11
    rw [dc_lp_eq]
    show (fun t x => dc_lf u N ab_M_X10_hardest (Φ (Option.bind t (dc_bk (d_X10_hardest_l11s x0 x1 m)))) x) (d_X10_hardest_l11b x0 x1 x3 x4 x5 m) _
    dsimp only
    unfold d_X10_hardest_l11b
    refine dg_s (pc' := 13) [.int x5] rfl (fun _ => rfl) rfl ?_
    refine dg_s (pc' := 15) [.int (64 : Int32), .int x5] rfl (fun _ => rfl) rfl ?_
    refine dw_if (fun t => Φ (Option.bind t (dc_bk (d_X10_hardest_l11s x0 x1 m)))) (64 ≤ (Int32.toInt x5)) [] 104 18 rfl (fun _ => rfl) (fun c0 => ?_) (fun c0 => ?_)
    · refine dw_g rfl ?_
      refine dg_s (pc' := 105) [.int x3] rfl (fun _ => rfl) rfl ?_
      exact dw_r (some (.inl (some (.int x3), m))) rfl (fun _ => rfl) (kR _)
    · refine dw_g rfl ?_
      refine dg_s (pc' := 19) [.long x1] rfl (fun _ => rfl) rfl ?_
      refine dg_s (pc' := 21) [.int x5, .long x1] rfl (fun _ => rfl) rfl ?_
      refine dg_s (pc' := 22) [.long (x1 >>> (Int32.toInt64 x5 &&& 63))] rfl (fun _ => rfl) rfl ?_
      refine dg_s (pc' := 23) [.long (1 : Int64), .long (x1 >>> (Int32.toInt64 x5 &&& 63))] rfl (fun _ => rfl) rfl ?_
      refine dg_s (pc' := 24) [.long ((x1 >>> (Int32.toInt64 x5 &&& 63)) &&& (1 : Int64))] rfl (fun _ => rfl) rfl ?_
      refine dg_s (pc' := 25) [.long (1 : Int64), .long ((x1 >>> (Int32.toInt64 x5 &&& 63)) &&& (1 : Int64))] rfl (fun _ => rfl) rfl ?_
      refine dg_s (pc' := 26) [.int (lg_cmp ((x1 >>> (Int32.toInt64 x5 &&& 63)) &&& (1 : Int64)) (1 : Int64))] rfl (fun _ => rfl) rfl ?_
      refine dw_if (fun t => Φ (Option.bind t (dc_bk (d_X10_hardest_l11s x0 x1 m)))) (¬ (Int32.toInt (lg_cmp ((x1 >>> (Int32.toInt64 x5 &&& 63)) &&& (1 : Int64)) (1 : Int64))) = 0) [] 98 29 rfl (fun _ => rfl) (fun c1 => ?_) (fun c1 => ?_)
      · refine dw_g rfl ?_
        refine dg_L (pc' := 101) [(5, .int (x5 + (1 : Int32))), (0, .ref x0), (1, .long x1), (3, .int x3), (4, .int x4)] [] rfl (fun _ => rfl) rfl ?_
        refine dw_s (pc' := 11) [] rfl (fun _ => rfl) ?_
        exact dw_j rfl (fun lv1 hv => ih x3 x4 (x5 + (1 : Int32)) lv1 (hv.1 _ rfl) (hv.2.1 _ rfl) (hv.2.2.1 _ rfl) (hv.2.2.2.1 _ rfl) (hv.2.2.2.2.1 _ rfl))
      · refine dw_g rfl ?_
        refine dg_s (pc' := 30) [.int (0 : Int32)] rfl (fun _ => rfl) rfl ?_
        refine dg_L (pc' := 32) [(6, .int (0 : Int32)), (0, .ref x0), (1, .long x1), (3, .int x3), (4, .int x4), (5, .int x5)] [] rfl (fun _ => rfl) rfl ?_
        refine dg_s (pc' := 33) [.int (0 : Int32)] rfl (fun _ => rfl) rfl ?_
        refine dw_L (pc' := 35) [(7, .int (0 : Int32)), (6, .int (0 : Int32)), (0, .ref x0), (1, .long x1), (3, .int x3), (4, .int x4), (5, .int x5)] [] rfl (fun _ => rfl) ?_
        exact dw_j rfl (fun lv1 hv => k_X10_hardest_l35 (Φ := (fun t => Φ (Option.bind t (dc_bk (d_X10_hardest_l11s x0 x1 m))))) x0 x1 x3 x4 x5 m (fun _a  => kR _a) N ih (0 : Int32) (0 : Int32) lv1 (hv.1 _ rfl) (hv.2.1 _ rfl) (hv.2.2.1 _ rfl) (hv.2.2.2.1 _ rfl) (hv.2.2.2.2.1 _ rfl) (hv.2.2.2.2.2.1 _ rfl) (hv.2.2.2.2.2.2.1 _ rfl))
noncomputable def d_X10_hardest (x0 : Nat) (x1 : Int64) (m : dc_M) : Option Int32 :=
  (d_X10_hardest_l11 x0 x1 (-4 : Int32) (1000 : Int32) (0 : Int32) m)
set_option maxHeartbeats 8000000 in
theorem k_X10_hardest {u : Nat} {N : Nat} {Φ : (Option Int32) → Option Value → dc_M → Prop} (x0 : Nat) (x1 : Int64) (m : dc_M) (kR : ∀ (v : Int32), Φ (some (v)) (some (.int v)) m)  {lv : ab_L} (f0 : ab_lk lv 0 = some (.ref x0)) (f1 : ab_lk lv 1 = some (.long x1)) : dc_pv u N ab_M_X10_hardest 0 lv [] m (Φ (d_X10_hardest x0 x1 m)) := by
  refine dc_pv.mono (dc_ok (C := C_X10_hardest) (S := S_X10_hardest) CO_X10_hardest 400 0 [(0, .ref x0), (1, .long x1)] lv [] m (dc_sub_cons f0 (dc_sub_cons f1 (dc_sub_nil))) ?_) (Nat.le_succ N)
  unfold d_X10_hardest
  refine dg_s (pc' := 2) [.int (-4 : Int32)] rfl (fun _ => rfl) rfl ?_
  refine dg_L (pc' := 3) [(3, .int (-4 : Int32)), (0, .ref x0), (1, .long x1)] [] rfl (fun _ => rfl) rfl ?_
  refine dg_s (pc' := 6) [.int (1000 : Int32)] rfl (fun _ => rfl) rfl ?_
  refine dg_L (pc' := 8) [(4, .int (1000 : Int32)), (3, .int (-4 : Int32)), (0, .ref x0), (1, .long x1)] [] rfl (fun _ => rfl) rfl ?_
  refine dg_s (pc' := 9) [.int (0 : Int32)] rfl (fun _ => rfl) rfl ?_
  refine dw_L (pc' := 11) [(5, .int (0 : Int32)), (4, .int (1000 : Int32)), (3, .int (-4 : Int32)), (0, .ref x0), (1, .long x1)] [] rfl (fun _ => rfl) ?_
  exact dw_j rfl (fun lv1 hv => k_X10_hardest_l11 (Φ := (fun t => Φ t)) x0 x1 m (fun _a  => kR _a) N  (-4 : Int32) (1000 : Int32) (0 : Int32) lv1 (hv.1 _ rfl) (hv.2.1 _ rfl) (hv.2.2.1 _ rfl) (hv.2.2.2.1 _ rfl) (hv.2.2.2.2.1 _ rfl))
noncomputable def H_X10_hardest : dc_H := fun As m k => match As with
  | [.ref x0, .long x1] => (d_X10_hardest x0 x1 m).bind (fun q => k (some (.int q)) m)
  | _ => dc_kz
theorem H_X10_hardest_ok {u : Nat} : dc_cok u 195 H_X10_hardest := fun M' hG N As m k P hz hP => by
  obtain rfl : ab_M_X10_hardest = M' := Option.some.inj hG
  unfold H_X10_hardest at hP
  split at hP
  · rename_i x0 x1
    exact dc_pv.imp (k_X10_hardest (Φ := fun (t : Option Int32) r m' => P (t.bind (fun q => k (some (.int q)) m)) → P (k r m')) x0 x1 m (fun _  h => h) rfl rfl) (fun r m' h => h hP)
  · exact absurd hP hz
def C_X10_isHopeless : List (Nat × dc_H) := []
theorem CO_X10_isHopeless {u : Nat} : dc_CO u C_X10_isHopeless := dc_CO_nil
def S_X10_isHopeless : List (Nat × List Nat) := [(12, [0, 3, 4, 5, 7, 8, 9]), (47, [0, 3, 4, 5, 7, 8, 9, 10, 11, 13]), (144, [3, 4, 7, 8])]
noncomputable def d_X10_isHopeless_b144 (x3 : Int32) (x4 : Int32) (x7 : Int32) (x8 : Int32) (m : dc_M) : Option Int32 :=
  (if (Int32.toInt x3) < (Int32.toInt x7) then some ((1 : Int32)) else (if (Int32.toInt x8) ≤ (Int32.toInt x4) then some ((0 : Int32)) else some ((1 : Int32))))
set_option maxHeartbeats 8000000 in
theorem k_X10_isHopeless_b144 {u : Nat} {N : Nat} {Φ : (Option Int32) → Option Value → dc_M → Prop} (x3 : Int32) (x4 : Int32) (x7 : Int32) (x8 : Int32) (m : dc_M) (kR : ∀ (v : Int32), Φ (some (v)) (some (.int v)) m)  {lv : ab_L} (f3 : ab_lk lv 3 = some (.int x3)) (f4 : ab_lk lv 4 = some (.int x4)) (f7 : ab_lk lv 7 = some (.int x7)) (f8 : ab_lk lv 8 = some (.int x8)) : dc_pv u N ab_M_X10_isHopeless 144 lv [] m (Φ (d_X10_isHopeless_b144 x3 x4 x7 x8 m)) := by
  refine dc_pv.mono (dc_ok (C := C_X10_isHopeless) (S := S_X10_isHopeless) CO_X10_isHopeless 400 144 [(3, .int x3), (4, .int x4), (7, .int x7), (8, .int x8)] lv [] m (dc_sub_cons f3 (dc_sub_cons f4 (dc_sub_cons f7 (dc_sub_cons f8 (dc_sub_nil))))) ?_) (Nat.le_succ N)
  unfold d_X10_isHopeless_b144
  refine dg_s (pc' := 146) [.int x7] rfl (fun _ => rfl) rfl ?_
  refine dg_s (pc' := 147) [.int x3, .int x7] rfl (fun _ => rfl) rfl ?_
  refine dw_if (fun t => Φ t) ((Int32.toInt x3) < (Int32.toInt x7)) [] 157 150 rfl (fun _ => rfl) (fun c0 => ?_) (fun c0 => ?_)
  · refine dw_g rfl ?_
    refine dg_s (pc' := 158) [.int (1 : Int32)] rfl (fun _ => rfl) rfl ?_
    refine dg_s (pc' := 162) [.int (1 : Int32)] rfl (fun _ => rfl) rfl ?_
    exact dw_r (some (.inl (some (.int (1 : Int32)), m))) rfl (fun _ => rfl) (kR _)
  · refine dw_g rfl ?_
    refine dg_s (pc' := 152) [.int x8] rfl (fun _ => rfl) rfl ?_
    refine dg_s (pc' := 154) [.int x4, .int x8] rfl (fun _ => rfl) rfl ?_
    refine dw_if (fun t => Φ t) ((Int32.toInt x8) ≤ (Int32.toInt x4)) [] 161 157 rfl (fun _ => rfl) (fun c1 => ?_) (fun c1 => ?_)
    · refine dw_g rfl ?_
      refine dg_s (pc' := 162) [.int (0 : Int32)] rfl (fun _ => rfl) rfl ?_
      exact dw_r (some (.inl (some (.int (0 : Int32)), m))) rfl (fun _ => rfl) (kR _)
    · refine dw_g rfl ?_
      refine dg_s (pc' := 158) [.int (1 : Int32)] rfl (fun _ => rfl) rfl ?_
      refine dg_s (pc' := 162) [.int (1 : Int32)] rfl (fun _ => rfl) rfl ?_
      exact dw_r (some (.inl (some (.int (1 : Int32)), m))) rfl (fun _ => rfl) (kR _)
noncomputable def d_X10_isHopeless_l47b (x0 : Nat) (x3 : Int32) (x4 : Int32) (x5 : Int64) (x7 : Int32) (x8 : Int32) (x9 : Int32) (x10 : Int32) (x11 : Int64) (x13 : Int32) (m : dc_M) : Option ((Int32 × Int64 × Int32) ⊕ ((Int64 × Int32 × Int32 × Int32) ⊕ Int32)) :=
  (if (Int32.toInt (m.1 x0 49)) ≤ (Int32.toInt x13) then some (Sum.inr (Sum.inl ((x5 &&& (x11 ^^^ (-1 : Int64))), (x7 + (1 : Int32)), (x8 + x10), (x9 + (1 : Int32))))) else (if ¬ (Int32.toInt (lg_cmp (((m.2.1 (x0 + 22) (Int32.toNatClampNeg x13)) >>> (Int32.toInt64 x9 &&& 63)) &&& (1 : Int64)) (1 : Int64))) = 0 then some (Sum.inl (x10, x11, (x13 + (1 : Int32)))) else (if (Int32.toInt x10) ≤ (Int32.toInt (m.1 (x0 + 23) (Int32.toNatClampNeg x13))) then some (Sum.inl (x10, (x11 ||| (m.2.1 (x0 + 22) (Int32.toNatClampNeg x13))), (x13 + (1 : Int32)))) else some (Sum.inl ((m.1 (x0 + 23) (Int32.toNatClampNeg x13)), (x11 ||| (m.2.1 (x0 + 22) (Int32.toNatClampNeg x13))), (x13 + (1 : Int32)))))))
noncomputable def d_X10_isHopeless_l47s (x0 : Nat) (x3 : Int32) (x4 : Int32) (x5 : Int64) (x7 : Int32) (x8 : Int32) (x9 : Int32) (m : dc_M) : (Int32 × Int64 × Int32) → Option ((Int32 × Int64 × Int32) ⊕ ((Int64 × Int32 × Int32 × Int32) ⊕ Int32)) := fun s => d_X10_isHopeless_l47b x0 x3 x4 x5 x7 x8 x9 s.1 s.2.1 s.2.2 m
noncomputable def d_X10_isHopeless_l47 (x0 : Nat) (x3 : Int32) (x4 : Int32) (x5 : Int64) (x7 : Int32) (x8 : Int32) (x9 : Int32) (x10 : Int32) (x11 : Int64) (x13 : Int32) (m : dc_M) : Option ((Int64 × Int32 × Int32 × Int32) ⊕ Int32) := dc_lp (d_X10_isHopeless_l47s x0 x3 x4 x5 x7 x8 x9 m) (x10, x11, x13)
set_option maxHeartbeats 8000000 in
theorem k_X10_isHopeless_l47 {u : Nat} {Φ : (Option ((Int64 × Int32 × Int32 × Int32) ⊕ Int32)) → Option Value → dc_M → Prop} (x0 : Nat) (x3 : Int32) (x4 : Int32) (x5 : Int64) (x7 : Int32) (x8 : Int32) (x9 : Int32) (m : dc_M) (kR : ∀ (v : Int32), Φ (some (Sum.inr (v))) (some (.int v)) m) : ∀ (N : Nat), (∀ (x5 : Int64) (x7 : Int32) (x8 : Int32) (x9 : Int32) (lv : ab_L), ab_lk lv 0 = some (.ref x0) → ab_lk lv 3 = some (.int x3) → ab_lk lv 4 = some (.int x4) → ab_lk lv 5 = some (.long x5) → ab_lk lv 7 = some (.int x7) → ab_lk lv 8 = some (.int x8) → ab_lk lv 9 = some (.int x9) →  dc_pv u N ab_M_X10_isHopeless 12 lv [] m (Φ (some (Sum.inl (x5, x7, x8, x9))))) → ∀ (x10 : Int32) (x11 : Int64) (x13 : Int32) (lv : ab_L), ab_lk lv 0 = some (.ref x0) → ab_lk lv 3 = some (.int x3) → ab_lk lv 4 = some (.int x4) → ab_lk lv 5 = some (.long x5) → ab_lk lv 7 = some (.int x7) → ab_lk lv 8 = some (.int x8) → ab_lk lv 9 = some (.int x9) → ab_lk lv 10 = some (.int x10) → ab_lk lv 11 = some (.long x11) → ab_lk lv 13 = some (.int x13) → dc_pv u N ab_M_X10_isHopeless 47 lv [] m (Φ (d_X10_isHopeless_l47 x0 x3 x4 x5 x7 x8 x9 x10 x11 x13 m)) := by
  intro N
  induction N with
  | zero => intros; exact dc_pv_zero
  | succ N ih =>
    intro k12 x10 x11 x13 lv f0 f3 f4 f5 f7 f8 f9 f10 f11 f13
    have k12 := fun a0 a1 a2 a3 a4 a5 a6 a7 a8 a9 a10 a11 => (k12 a0 a1 a2 a3 a4 a5 a6 a7 a8 a9 a10 a11).mono (Nat.le_succ N)
    have ih := ih k12
    refine dc_ok (C := C_X10_isHopeless) (S := S_X10_isHopeless) CO_X10_isHopeless 400 47 [(0, .ref x0), (3, .int x3), (4, .int x4), (5, .long x5), (7, .int x7), (8, .int x8), (9, .int x9), (10, .int x10), (11, .long x11), (13, .int x13)] lv [] m (dc_sub_cons f0 (dc_sub_cons f3 (dc_sub_cons f4 (dc_sub_cons f5 (dc_sub_cons f7 (dc_sub_cons f8 (dc_sub_cons f9 (dc_sub_cons f10 (dc_sub_cons f11 (dc_sub_cons f13 (dc_sub_nil))))))))))) ?_
    unfold d_X10_isHopeless_l47
    rw [dc_lp_eq]
    show (fun t x => dc_lf u N ab_M_X10_isHopeless (Φ (Option.bind t (dc_bk (d_X10_isHopeless_l47s x0 x3 x4 x5 x7 x8 x9 m)))) x) (d_X10_isHopeless_l47b x0 x3 x4 x5 x7 x8 x9 x10 x11 x13 m) _
    dsimp only
    unfold d_X10_isHopeless_l47b
    refine dg_s (pc' := 49) [.int x13] rfl (fun _ => rfl) rfl ?_
    refine dg_s (pc' := 50) [.ref x0, .int x13] rfl (fun _ => rfl) rfl ?_
    refine dg_s (pc' := 53) [.int (m.1 x0 49), .int x13] rfl (fun _ => rfl) rfl ?_
    refine dw_if (fun t => Φ (Option.bind t (dc_bk (d_X10_isHopeless_l47s x0 x3 x4 x5 x7 x8 x9 m)))) ((Int32.toInt (m.1 x0 49)) ≤ (Int32.toInt x13)) [] 117 56 rfl (fun _ => rfl) (fun c0 => ?_) (fun c0 => ?_)
    · refine dw_g rfl ?_
      refine dg_s (pc' := 119) [.long x5] rfl (fun _ => rfl) rfl ?_
      refine dg_s (pc' := 121) [.long x11, .long x5] rfl (fun _ => rfl) rfl ?_
      refine dg_s (pc' := 124) [.long (-1 : Int64), .long x11, .long x5] rfl (fun _ => rfl) rfl ?_
      refine dg_s (pc' := 125) [.long (x11 ^^^ (-1 : Int64)), .long x5] rfl (fun _ => rfl) rfl ?_
      refine dg_s (pc' := 126) [.long (x5 &&& (x11 ^^^ (-1 : Int64)))] rfl (fun _ => rfl) rfl ?_
      refine dg_L (pc' := 128) [(5, .long (x5 &&& (x11 ^^^ (-1 : Int64)))), (0, .ref x0), (3, .int x3), (4, .int x4), (7, .int x7), (8, .int x8), (9, .int x9), (10, .int x10), (11, .long x11), (13, .int x13)] [] rfl (fun _ => rfl) rfl ?_
      refine dg_L (pc' := 131) [(7, .int (x7 + (1 : Int32))), (5, .long (x5 &&& (x11 ^^^ (-1 : Int64)))), (0, .ref x0), (3, .int x3), (4, .int x4), (8, .int x8), (9, .int x9), (10, .int x10), (11, .long x11), (13, .int x13)] [] rfl (fun _ => rfl) rfl ?_
      refine dg_s (pc' := 133) [.int x8] rfl (fun _ => rfl) rfl ?_
      refine dg_s (pc' := 135) [.int x10, .int x8] rfl (fun _ => rfl) rfl ?_
      refine dg_s (pc' := 136) [.int (x8 + x10)] rfl (fun _ => rfl) rfl ?_
      refine dg_L (pc' := 138) [(8, .int (x8 + x10)), (7, .int (x7 + (1 : Int32))), (5, .long (x5 &&& (x11 ^^^ (-1 : Int64)))), (0, .ref x0), (3, .int x3), (4, .int x4), (9, .int x9), (10, .int x10), (11, .long x11), (13, .int x13)] [] rfl (fun _ => rfl) rfl ?_
      refine dg_L (pc' := 141) [(9, .int (x9 + (1 : Int32))), (8, .int (x8 + x10)), (7, .int (x7 + (1 : Int32))), (5, .long (x5 &&& (x11 ^^^ (-1 : Int64)))), (0, .ref x0), (3, .int x3), (4, .int x4), (10, .int x10), (11, .long x11), (13, .int x13)] [] rfl (fun _ => rfl) rfl ?_
      refine dw_s (pc' := 12) [] rfl (fun _ => rfl) ?_
      exact dw_j rfl (fun lv1 hv => k12 (x5 &&& (x11 ^^^ (-1 : Int64))) (x7 + (1 : Int32)) (x8 + x10) (x9 + (1 : Int32)) lv1 (hv.1 _ rfl) (hv.2.1 _ rfl) (hv.2.2.1 _ rfl) (hv.2.2.2.1 _ rfl) (hv.2.2.2.2.1 _ rfl) (hv.2.2.2.2.2.1 _ rfl) (hv.2.2.2.2.2.2.1 _ rfl))
    · refine dw_g rfl ?_
      refine dg_s (pc' := 57) [.ref x0] rfl (fun _ => rfl) rfl ?_
      refine dg_s (pc' := 60) [.ref (x0 + 22)] rfl (fun _ => rfl) rfl ?_
      refine dg_s (pc' := 62) [.int x13, .ref (x0 + 22)] rfl (fun _ => rfl) rfl ?_
      refine dg_s (pc' := 63) [.long (m.2.1 (x0 + 22) (Int32.toNatClampNeg x13))] rfl (fun _ => rfl) rfl ?_
      refine dg_s (pc' := 65) [.int x9, .long (m.2.1 (x0 + 22) (Int32.toNatClampNeg x13))] rfl (fun _ => rfl) rfl ?_
      refine dg_s (pc' := 66) [.long ((m.2.1 (x0 + 22) (Int32.toNatClampNeg x13)) >>> (Int32.toInt64 x9 &&& 63))] rfl (fun _ => rfl) rfl ?_
      refine dg_s (pc' := 67) [.long (1 : Int64), .long ((m.2.1 (x0 + 22) (Int32.toNatClampNeg x13)) >>> (Int32.toInt64 x9 &&& 63))] rfl (fun _ => rfl) rfl ?_
      refine dg_s (pc' := 68) [.long (((m.2.1 (x0 + 22) (Int32.toNatClampNeg x13)) >>> (Int32.toInt64 x9 &&& 63)) &&& (1 : Int64))] rfl (fun _ => rfl) rfl ?_
      refine dg_s (pc' := 69) [.long (1 : Int64), .long (((m.2.1 (x0 + 22) (Int32.toNatClampNeg x13)) >>> (Int32.toInt64 x9 &&& 63)) &&& (1 : Int64))] rfl (fun _ => rfl) rfl ?_
      refine dg_s (pc' := 70) [.int (lg_cmp (((m.2.1 (x0 + 22) (Int32.toNatClampNeg x13)) >>> (Int32.toInt64 x9 &&& 63)) &&& (1 : Int64)) (1 : Int64))] rfl (fun _ => rfl) rfl ?_
      refine dw_if (fun t => Φ (Option.bind t (dc_bk (d_X10_isHopeless_l47s x0 x3 x4 x5 x7 x8 x9 m)))) (¬ (Int32.toInt (lg_cmp (((m.2.1 (x0 + 22) (Int32.toNatClampNeg x13)) >>> (Int32.toInt64 x9 &&& 63)) &&& (1 : Int64)) (1 : Int64))) = 0) [] 111 73 rfl (fun _ => rfl) (fun c1 => ?_) (fun c1 => ?_)
      · refine dw_g rfl ?_
        refine dg_L (pc' := 114) [(13, .int (x13 + (1 : Int32))), (0, .ref x0), (3, .int x3), (4, .int x4), (5, .long x5), (7, .int x7), (8, .int x8), (9, .int x9), (10, .int x10), (11, .long x11)] [] rfl (fun _ => rfl) rfl ?_
        refine dw_s (pc' := 47) [] rfl (fun _ => rfl) ?_
        exact dw_j rfl (fun lv1 hv => ih x10 x11 (x13 + (1 : Int32)) lv1 (hv.1 _ rfl) (hv.2.1 _ rfl) (hv.2.2.1 _ rfl) (hv.2.2.2.1 _ rfl) (hv.2.2.2.2.1 _ rfl) (hv.2.2.2.2.2.1 _ rfl) (hv.2.2.2.2.2.2.1 _ rfl) (hv.2.2.2.2.2.2.2.1 _ rfl) (hv.2.2.2.2.2.2.2.2.1 _ rfl) (hv.2.2.2.2.2.2.2.2.2.1 _ rfl))
      · refine dw_g rfl ?_
        refine dg_s (pc' := 75) [.long x11] rfl (fun _ => rfl) rfl ?_
        refine dg_s (pc' := 76) [.ref x0, .long x11] rfl (fun _ => rfl) rfl ?_
        refine dg_s (pc' := 79) [.ref (x0 + 22), .long x11] rfl (fun _ => rfl) rfl ?_
        refine dg_s (pc' := 81) [.int x13, .ref (x0 + 22), .long x11] rfl (fun _ => rfl) rfl ?_
        refine dg_s (pc' := 82) [.long (m.2.1 (x0 + 22) (Int32.toNatClampNeg x13)), .long x11] rfl (fun _ => rfl) rfl ?_
        refine dg_s (pc' := 83) [.long (x11 ||| (m.2.1 (x0 + 22) (Int32.toNatClampNeg x13)))] rfl (fun _ => rfl) rfl ?_
        refine dg_L (pc' := 85) [(11, .long (x11 ||| (m.2.1 (x0 + 22) (Int32.toNatClampNeg x13)))), (0, .ref x0), (3, .int x3), (4, .int x4), (5, .long x5), (7, .int x7), (8, .int x8), (9, .int x9), (10, .int x10), (13, .int x13)] [] rfl (fun _ => rfl) rfl ?_
        refine dg_s (pc' := 86) [.ref x0] rfl (fun _ => rfl) rfl ?_
        refine dg_s (pc' := 89) [.ref (x0 + 23)] rfl (fun _ => rfl) rfl ?_
        refine dg_s (pc' := 91) [.int x13, .ref (x0 + 23)] rfl (fun _ => rfl) rfl ?_
        refine dg_s (pc' := 92) [.int (m.1 (x0 + 23) (Int32.toNatClampNeg x13))] rfl (fun _ => rfl) rfl ?_
        refine dg_s (pc' := 94) [.int x10, .int (m.1 (x0 + 23) (Int32.toNatClampNeg x13))] rfl (fun _ => rfl) rfl ?_
        refine dw_if (fun t => Φ (Option.bind t (dc_bk (d_X10_isHopeless_l47s x0 x3 x4 x5 x7 x8 x9 m)))) ((Int32.toInt x10) ≤ (Int32.toInt (m.1 (x0 + 23) (Int32.toNatClampNeg x13)))) [] 107 97 rfl (fun _ => rfl) (fun c2 => ?_) (fun c2 => ?_)
        · refine dw_g rfl ?_
          refine dg_s (pc' := 109) [.int x10] rfl (fun _ => rfl) rfl ?_
          refine dg_L (pc' := 111) [(10, .int x10), (11, .long (x11 ||| (m.2.1 (x0 + 22) (Int32.toNatClampNeg x13)))), (0, .ref x0), (3, .int x3), (4, .int x4), (5, .long x5), (7, .int x7), (8, .int x8), (9, .int x9), (13, .int x13)] [] rfl (fun _ => rfl) rfl ?_
          refine dg_L (pc' := 114) [(13, .int (x13 + (1 : Int32))), (10, .int x10), (11, .long (x11 ||| (m.2.1 (x0 + 22) (Int32.toNatClampNeg x13)))), (0, .ref x0), (3, .int x3), (4, .int x4), (5, .long x5), (7, .int x7), (8, .int x8), (9, .int x9)] [] rfl (fun _ => rfl) rfl ?_
          refine dw_s (pc' := 47) [] rfl (fun _ => rfl) ?_
          exact dw_j rfl (fun lv1 hv => ih x10 (x11 ||| (m.2.1 (x0 + 22) (Int32.toNatClampNeg x13))) (x13 + (1 : Int32)) lv1 (hv.1 _ rfl) (hv.2.1 _ rfl) (hv.2.2.1 _ rfl) (hv.2.2.2.1 _ rfl) (hv.2.2.2.2.1 _ rfl) (hv.2.2.2.2.2.1 _ rfl) (hv.2.2.2.2.2.2.1 _ rfl) (hv.2.2.2.2.2.2.2.1 _ rfl) (hv.2.2.2.2.2.2.2.2.1 _ rfl) (hv.2.2.2.2.2.2.2.2.2.1 _ rfl))
        · refine dw_g rfl ?_
          refine dg_s (pc' := 98) [.ref x0] rfl (fun _ => rfl) rfl ?_
          refine dg_s (pc' := 101) [.ref (x0 + 23)] rfl (fun _ => rfl) rfl ?_
          refine dg_s (pc' := 103) [.int x13, .ref (x0 + 23)] rfl (fun _ => rfl) rfl ?_
          refine dg_s (pc' := 104) [.int (m.1 (x0 + 23) (Int32.toNatClampNeg x13))] rfl (fun _ => rfl) rfl ?_
          refine dg_s (pc' := 109) [.int (m.1 (x0 + 23) (Int32.toNatClampNeg x13))] rfl (fun _ => rfl) rfl ?_
          refine dg_L (pc' := 111) [(10, .int (m.1 (x0 + 23) (Int32.toNatClampNeg x13))), (11, .long (x11 ||| (m.2.1 (x0 + 22) (Int32.toNatClampNeg x13)))), (0, .ref x0), (3, .int x3), (4, .int x4), (5, .long x5), (7, .int x7), (8, .int x8), (9, .int x9), (13, .int x13)] [] rfl (fun _ => rfl) rfl ?_
          refine dg_L (pc' := 114) [(13, .int (x13 + (1 : Int32))), (10, .int (m.1 (x0 + 23) (Int32.toNatClampNeg x13))), (11, .long (x11 ||| (m.2.1 (x0 + 22) (Int32.toNatClampNeg x13)))), (0, .ref x0), (3, .int x3), (4, .int x4), (5, .long x5), (7, .int x7), (8, .int x8), (9, .int x9)] [] rfl (fun _ => rfl) rfl ?_
          refine dw_s (pc' := 47) [] rfl (fun _ => rfl) ?_
          exact dw_j rfl (fun lv1 hv => ih (m.1 (x0 + 23) (Int32.toNatClampNeg x13)) (x11 ||| (m.2.1 (x0 + 22) (Int32.toNatClampNeg x13))) (x13 + (1 : Int32)) lv1 (hv.1 _ rfl) (hv.2.1 _ rfl) (hv.2.2.1 _ rfl) (hv.2.2.2.1 _ rfl) (hv.2.2.2.2.1 _ rfl) (hv.2.2.2.2.2.1 _ rfl) (hv.2.2.2.2.2.2.1 _ rfl) (hv.2.2.2.2.2.2.2.1 _ rfl) (hv.2.2.2.2.2.2.2.2.1 _ rfl) (hv.2.2.2.2.2.2.2.2.2.1 _ rfl))
noncomputable def d_X10_isHopeless_l12b (x0 : Nat) (x3 : Int32) (x4 : Int32) (x5 : Int64) (x7 : Int32) (x8 : Int32) (x9 : Int32) (m : dc_M) : Option ((Int64 × Int32 × Int32 × Int32) ⊕ Int32) :=
  (if 64 ≤ (Int32.toInt x9) then ((d_X10_isHopeless_b144 x3 x4 x7 x8 m).map (fun z => Sum.inr (z))) else (if (Int32.toInt x3) < (Int32.toInt x7) then ((d_X10_isHopeless_b144 x3 x4 x7 x8 m).map (fun z => Sum.inr (z))) else (if ¬ (Int32.toInt (lg_cmp ((x5 >>> (Int32.toInt64 x9 &&& 63)) &&& (1 : Int64)) (1 : Int64))) = 0 then some (Sum.inl (x5, x7, x8, (x9 + (1 : Int32)))) else (d_X10_isHopeless_l47 x0 x3 x4 x5 x7 x8 x9 (7 : Int32) (0 : Int64) (0 : Int32) m))))
noncomputable def d_X10_isHopeless_l12s (x0 : Nat) (x3 : Int32) (x4 : Int32) (m : dc_M) : (Int64 × Int32 × Int32 × Int32) → Option ((Int64 × Int32 × Int32 × Int32) ⊕ Int32) := fun s => d_X10_isHopeless_l12b x0 x3 x4 s.1 s.2.1 s.2.2.1 s.2.2.2 m
noncomputable def d_X10_isHopeless_l12 (x0 : Nat) (x3 : Int32) (x4 : Int32) (x5 : Int64) (x7 : Int32) (x8 : Int32) (x9 : Int32) (m : dc_M) : Option Int32 := dc_lp (d_X10_isHopeless_l12s x0 x3 x4 m) (x5, x7, x8, x9)
set_option maxHeartbeats 8000000 in
theorem k_X10_isHopeless_l12 {u : Nat} {Φ : (Option Int32) → Option Value → dc_M → Prop} (x0 : Nat) (x3 : Int32) (x4 : Int32) (m : dc_M) (kR : ∀ (v : Int32), Φ (some (v)) (some (.int v)) m) : ∀ (N : Nat), ∀ (x5 : Int64) (x7 : Int32) (x8 : Int32) (x9 : Int32) (lv : ab_L), ab_lk lv 0 = some (.ref x0) → ab_lk lv 3 = some (.int x3) → ab_lk lv 4 = some (.int x4) → ab_lk lv 5 = some (.long x5) → ab_lk lv 7 = some (.int x7) → ab_lk lv 8 = some (.int x8) → ab_lk lv 9 = some (.int x9) → dc_pv u N ab_M_X10_isHopeless 12 lv [] m (Φ (d_X10_isHopeless_l12 x0 x3 x4 x5 x7 x8 x9 m)) := by
  intro N
  induction N with
  | zero => intros; exact dc_pv_zero
  | succ N ih =>
    intro x5 x7 x8 x9 lv f0 f3 f4 f5 f7 f8 f9
    refine dc_ok (C := C_X10_isHopeless) (S := S_X10_isHopeless) CO_X10_isHopeless 400 12 [(0, .ref x0), (3, .int x3), (4, .int x4), (5, .long x5), (7, .int x7), (8, .int x8), (9, .int x9)] lv [] m (dc_sub_cons f0 (dc_sub_cons f3 (dc_sub_cons f4 (dc_sub_cons f5 (dc_sub_cons f7 (dc_sub_cons f8 (dc_sub_cons f9 (dc_sub_nil)))))))) ?_
    unfold d_X10_isHopeless_l12
    rw [dc_lp_eq]
    show (fun t x => dc_lf u N ab_M_X10_isHopeless (Φ (Option.bind t (dc_bk (d_X10_isHopeless_l12s x0 x3 x4 m)))) x) (d_X10_isHopeless_l12b x0 x3 x4 x5 x7 x8 x9 m) _
    dsimp only
    unfold d_X10_isHopeless_l12b
    refine dg_s (pc' := 14) [.int x9] rfl (fun _ => rfl) rfl ?_
    refine dg_s (pc' := 16) [.int (64 : Int32), .int x9] rfl (fun _ => rfl) rfl ?_
    refine dw_if (fun t => Φ (Option.bind t (dc_bk (d_X10_isHopeless_l12s x0 x3 x4 m)))) (64 ≤ (Int32.toInt x9)) [] 144 19 rfl (fun _ => rfl) (fun c0 => ?_) (fun c0 => ?_)
    · exact dw_j rfl (fun lv1 hv => k_X10_isHopeless_b144 (Φ := (fun t => Φ (Option.bind (t.map (fun z => Sum.inr (z))) (dc_bk (d_X10_isHopeless_l12s x0 x3 x4 m))))) x3 x4 x7 x8 m (fun _a  => kR _a)  (hv.1 _ rfl) (hv.2.1 _ rfl) (hv.2.2.1 _ rfl) (hv.2.2.2.1 _ rfl))
    · refine dw_g rfl ?_
      refine dg_s (pc' := 21) [.int x7] rfl (fun _ => rfl) rfl ?_
      refine dg_s (pc' := 22) [.int x3, .int x7] rfl (fun _ => rfl) rfl ?_
      refine dw_if (fun t => Φ (Option.bind t (dc_bk (d_X10_isHopeless_l12s x0 x3 x4 m)))) ((Int32.toInt x3) < (Int32.toInt x7)) [] 144 25 rfl (fun _ => rfl) (fun c1 => ?_) (fun c1 => ?_)
      · exact dw_j rfl (fun lv1 hv => k_X10_isHopeless_b144 (Φ := (fun t => Φ (Option.bind (t.map (fun z => Sum.inr (z))) (dc_bk (d_X10_isHopeless_l12s x0 x3 x4 m))))) x3 x4 x7 x8 m (fun _a  => kR _a)  (hv.1 _ rfl) (hv.2.1 _ rfl) (hv.2.2.1 _ rfl) (hv.2.2.2.1 _ rfl))
      · refine dw_g rfl ?_
        refine dg_s (pc' := 27) [.long x5] rfl (fun _ => rfl) rfl ?_
        refine dg_s (pc' := 29) [.int x9, .long x5] rfl (fun _ => rfl) rfl ?_
        refine dg_s (pc' := 30) [.long (x5 >>> (Int32.toInt64 x9 &&& 63))] rfl (fun _ => rfl) rfl ?_
        refine dg_s (pc' := 31) [.long (1 : Int64), .long (x5 >>> (Int32.toInt64 x9 &&& 63))] rfl (fun _ => rfl) rfl ?_
        refine dg_s (pc' := 32) [.long ((x5 >>> (Int32.toInt64 x9 &&& 63)) &&& (1 : Int64))] rfl (fun _ => rfl) rfl ?_
        refine dg_s (pc' := 33) [.long (1 : Int64), .long ((x5 >>> (Int32.toInt64 x9 &&& 63)) &&& (1 : Int64))] rfl (fun _ => rfl) rfl ?_
        refine dg_s (pc' := 34) [.int (lg_cmp ((x5 >>> (Int32.toInt64 x9 &&& 63)) &&& (1 : Int64)) (1 : Int64))] rfl (fun _ => rfl) rfl ?_
        refine dw_if (fun t => Φ (Option.bind t (dc_bk (d_X10_isHopeless_l12s x0 x3 x4 m)))) (¬ (Int32.toInt (lg_cmp ((x5 >>> (Int32.toInt64 x9 &&& 63)) &&& (1 : Int64)) (1 : Int64))) = 0) [] 138 37 rfl (fun _ => rfl) (fun c2 => ?_) (fun c2 => ?_)
        · refine dw_g rfl ?_
          refine dg_L (pc' := 141) [(9, .int (x9 + (1 : Int32))), (0, .ref x0), (3, .int x3), (4, .int x4), (5, .long x5), (7, .int x7), (8, .int x8)] [] rfl (fun _ => rfl) rfl ?_
          refine dw_s (pc' := 12) [] rfl (fun _ => rfl) ?_
          exact dw_j rfl (fun lv1 hv => ih x5 x7 x8 (x9 + (1 : Int32)) lv1 (hv.1 _ rfl) (hv.2.1 _ rfl) (hv.2.2.1 _ rfl) (hv.2.2.2.1 _ rfl) (hv.2.2.2.2.1 _ rfl) (hv.2.2.2.2.2.1 _ rfl) (hv.2.2.2.2.2.2.1 _ rfl))
        · refine dw_g rfl ?_
          refine dg_s (pc' := 39) [.int (7 : Int32)] rfl (fun _ => rfl) rfl ?_
          refine dg_L (pc' := 41) [(10, .int (7 : Int32)), (0, .ref x0), (3, .int x3), (4, .int x4), (5, .long x5), (7, .int x7), (8, .int x8), (9, .int x9)] [] rfl (fun _ => rfl) rfl ?_
          refine dg_s (pc' := 42) [.long (0 : Int64)] rfl (fun _ => rfl) rfl ?_
          refine dg_L (pc' := 44) [(11, .long (0 : Int64)), (10, .int (7 : Int32)), (0, .ref x0), (3, .int x3), (4, .int x4), (5, .long x5), (7, .int x7), (8, .int x8), (9, .int x9)] [] rfl (fun _ => rfl) rfl ?_
          refine dg_s (pc' := 45) [.int (0 : Int32)] rfl (fun _ => rfl) rfl ?_
          refine dw_L (pc' := 47) [(13, .int (0 : Int32)), (11, .long (0 : Int64)), (10, .int (7 : Int32)), (0, .ref x0), (3, .int x3), (4, .int x4), (5, .long x5), (7, .int x7), (8, .int x8), (9, .int x9)] [] rfl (fun _ => rfl) ?_
          exact dw_j rfl (fun lv1 hv => k_X10_isHopeless_l47 (Φ := (fun t => Φ (Option.bind t (dc_bk (d_X10_isHopeless_l12s x0 x3 x4 m))))) x0 x3 x4 x5 x7 x8 x9 m (fun _a  => kR _a) N ih (7 : Int32) (0 : Int64) (0 : Int32) lv1 (hv.1 _ rfl) (hv.2.1 _ rfl) (hv.2.2.1 _ rfl) (hv.2.2.2.1 _ rfl) (hv.2.2.2.2.1 _ rfl) (hv.2.2.2.2.2.1 _ rfl) (hv.2.2.2.2.2.2.1 _ rfl) (hv.2.2.2.2.2.2.2.1 _ rfl) (hv.2.2.2.2.2.2.2.2.1 _ rfl) (hv.2.2.2.2.2.2.2.2.2.1 _ rfl))
noncomputable def d_X10_isHopeless (x0 : Nat) (x1 : Int64) (x3 : Int32) (x4 : Int32) (m : dc_M) : Option Int32 :=
  (d_X10_isHopeless_l12 x0 x3 x4 x1 (0 : Int32) (0 : Int32) (0 : Int32) m)
set_option maxHeartbeats 8000000 in
theorem k_X10_isHopeless {u : Nat} {N : Nat} {Φ : (Option Int32) → Option Value → dc_M → Prop} (x0 : Nat) (x1 : Int64) (x3 : Int32) (x4 : Int32) (m : dc_M) (kR : ∀ (v : Int32), Φ (some (v)) (some (.int v)) m)  {lv : ab_L} (f0 : ab_lk lv 0 = some (.ref x0)) (f1 : ab_lk lv 1 = some (.long x1)) (f3 : ab_lk lv 3 = some (.int x3)) (f4 : ab_lk lv 4 = some (.int x4)) : dc_pv u N ab_M_X10_isHopeless 0 lv [] m (Φ (d_X10_isHopeless x0 x1 x3 x4 m)) := by
  refine dc_pv.mono (dc_ok (C := C_X10_isHopeless) (S := S_X10_isHopeless) CO_X10_isHopeless 400 0 [(0, .ref x0), (1, .long x1), (3, .int x3), (4, .int x4)] lv [] m (dc_sub_cons f0 (dc_sub_cons f1 (dc_sub_cons f3 (dc_sub_cons f4 (dc_sub_nil))))) ?_) (Nat.le_succ N)
  unfold d_X10_isHopeless
  refine dg_s (pc' := 1) [.long x1] rfl (fun _ => rfl) rfl ?_
  refine dg_L (pc' := 3) [(5, .long x1), (0, .ref x0), (1, .long x1), (3, .int x3), (4, .int x4)] [] rfl (fun _ => rfl) rfl ?_
  refine dg_s (pc' := 4) [.int (0 : Int32)] rfl (fun _ => rfl) rfl ?_
  refine dg_L (pc' := 6) [(7, .int (0 : Int32)), (5, .long x1), (0, .ref x0), (1, .long x1), (3, .int x3), (4, .int x4)] [] rfl (fun _ => rfl) rfl ?_
  refine dg_s (pc' := 7) [.int (0 : Int32)] rfl (fun _ => rfl) rfl ?_
  refine dg_L (pc' := 9) [(8, .int (0 : Int32)), (7, .int (0 : Int32)), (5, .long x1), (0, .ref x0), (1, .long x1), (3, .int x3), (4, .int x4)] [] rfl (fun _ => rfl) rfl ?_
  refine dg_s (pc' := 10) [.int (0 : Int32)] rfl (fun _ => rfl) rfl ?_
  refine dw_L (pc' := 12) [(9, .int (0 : Int32)), (8, .int (0 : Int32)), (7, .int (0 : Int32)), (5, .long x1), (0, .ref x0), (1, .long x1), (3, .int x3), (4, .int x4)] [] rfl (fun _ => rfl) ?_
  exact dw_j rfl (fun lv1 hv => k_X10_isHopeless_l12 (Φ := (fun t => Φ t)) x0 x3 x4 m (fun _a  => kR _a) N  x1 (0 : Int32) (0 : Int32) (0 : Int32) lv1 (hv.1 _ rfl) (hv.2.1 _ rfl) (hv.2.2.1 _ rfl) (hv.2.2.2.1 _ rfl) (hv.2.2.2.2.1 _ rfl) (hv.2.2.2.2.2.1 _ rfl) (hv.2.2.2.2.2.2.1 _ rfl))
noncomputable def H_X10_isHopeless : dc_H := fun As m k => match As with
  | [.ref x0, .long x1, .int x3, .int x4] => (d_X10_isHopeless x0 x1 x3 x4 m).bind (fun q => k (some (.int q)) m)
  | _ => dc_kz
theorem H_X10_isHopeless_ok {u : Nat} : dc_cok u 194 H_X10_isHopeless := fun M' hG N As m k P hz hP => by
  obtain rfl : ab_M_X10_isHopeless = M' := Option.some.inj hG
  unfold H_X10_isHopeless at hP
  split at hP
  · rename_i x0 x1 x3 x4
    exact dc_pv.imp (k_X10_isHopeless (Φ := fun (t : Option Int32) r m' => P (t.bind (fun q => k (some (.int q)) m)) → P (k r m')) x0 x1 x3 x4 m (fun _  h => h) rfl rfl rfl rfl) (fun r m' h => h hP)
  · exact absurd hP hz
noncomputable def C_X10_canMake : List (Nat × dc_H) := [(195, H_X10_hardest), (194, H_X10_isHopeless)]
theorem CO_X10_canMake {u : Nat} : dc_CO u C_X10_canMake := dc_CO_cons H_X10_hardest_ok (dc_CO_cons H_X10_isHopeless_ok (dc_CO_nil))
def S_X10_canMake : List (Nat × List Nat) := [(26, [0, 3, 5]), (115, [0, 3, 5]), (142, [0, 3, 5, 8]), (196, [0, 3, 5, 8])]
noncomputable def d_X10_canMake_b196 (x0 : Nat) (x3 : Int32) (x5 : Int32) (x8 : Int32) (m : dc_M) : Option ((Int32 × dc_M) ⊕ (Int32 × dc_M)) :=
  (if (Int32.toInt (m.1 x0 49)) ≤ (Int32.toInt x8) then some (Sum.inl ((x5 + (-1)), m)) else (if (Int32.toInt x3) ≤ (Int32.toInt x5) then some (Sum.inl ((x5 + (-1)), m)) else some (Sum.inl ((x5 + (1 : Int32)), (dc_wi (dc_wi (dc_wl (dc_wi m (x0 + 26) (Int32.toNatClampNeg x5) (x8 + (1 : Int32))) (x0 + 24) (Int32.toNatClampNeg (x5 + (1 : Int32))) (((dc_wi m (x0 + 26) (Int32.toNatClampNeg x5) (x8 + (1 : Int32))).2.1 (x0 + 24) (Int32.toNatClampNeg x5)) ||| ((dc_wi m (x0 + 26) (Int32.toNatClampNeg x5) (x8 + (1 : Int32))).2.1 (x0 + 22) (Int32.toNatClampNeg x8)))) (x0 + 27) (Int32.toNatClampNeg (x5 + (1 : Int32))) (((dc_wl (dc_wi m (x0 + 26) (Int32.toNatClampNeg x5) (x8 + (1 : Int32))) (x0 + 24) (Int32.toNatClampNeg (x5 + (1 : Int32))) (((dc_wi m (x0 + 26) (Int32.toNatClampNeg x5) (x8 + (1 : Int32))).2.1 (x0 + 24) (Int32.toNatClampNeg x5)) ||| ((dc_wi m (x0 + 26) (Int32.toNatClampNeg x5) (x8 + (1 : Int32))).2.1 (x0 + 22) (Int32.toNatClampNeg x8)))).1 (x0 + 27) (Int32.toNatClampNeg x5)) - ((dc_wl (dc_wi m (x0 + 26) (Int32.toNatClampNeg x5) (x8 + (1 : Int32))) (x0 + 24) (Int32.toNatClampNeg (x5 + (1 : Int32))) (((dc_wi m (x0 + 26) (Int32.toNatClampNeg x5) (x8 + (1 : Int32))).2.1 (x0 + 24) (Int32.toNatClampNeg x5)) ||| ((dc_wi m (x0 + 26) (Int32.toNatClampNeg x5) (x8 + (1 : Int32))).2.1 (x0 + 22) (Int32.toNatClampNeg x8)))).1 (x0 + 23) (Int32.toNatClampNeg x8)))) (x0 + 25) (Int32.toNatClampNeg (x5 + (1 : Int32))) (-4 : Int32))))))
set_option maxHeartbeats 8000000 in
theorem k_X10_canMake_b196 {u : Nat} {N : Nat} {Φ : (Option ((Int32 × dc_M) ⊕ (Int32 × dc_M))) → Option Value → dc_M → Prop} (x0 : Nat) (x3 : Int32) (x5 : Int32) (x8 : Int32) (m : dc_M) (kR : ∀ (v : Int32) (m : dc_M), Φ (some (Sum.inr ((v, m)))) (some (.int v)) m) (k26 : ∀ (x5 : Int32) (m : dc_M) (lv : ab_L), ab_lk lv 0 = some (.ref x0) → ab_lk lv 3 = some (.int x3) → ab_lk lv 5 = some (.int x5) →  dc_pv u N ab_M_X10_canMake 26 lv [] m (Φ (some (Sum.inl (x5, m))))) {lv : ab_L} (f0 : ab_lk lv 0 = some (.ref x0)) (f3 : ab_lk lv 3 = some (.int x3)) (f5 : ab_lk lv 5 = some (.int x5)) (f8 : ab_lk lv 8 = some (.int x8)) : dc_pv u N ab_M_X10_canMake 196 lv [] m (Φ (d_X10_canMake_b196 x0 x3 x5 x8 m)) := by
  refine dc_pv.mono (dc_ok (C := C_X10_canMake) (S := S_X10_canMake) CO_X10_canMake 400 196 [(0, .ref x0), (3, .int x3), (5, .int x5), (8, .int x8)] lv [] m (dc_sub_cons f0 (dc_sub_cons f3 (dc_sub_cons f5 (dc_sub_cons f8 (dc_sub_nil))))) ?_) (Nat.le_succ N)
  unfold d_X10_canMake_b196
  refine dg_s (pc' := 198) [.int x8] rfl (fun _ => rfl) rfl ?_
  refine dg_s (pc' := 199) [.ref x0, .int x8] rfl (fun _ => rfl) rfl ?_
  refine dg_s (pc' := 202) [.int (m.1 x0 49), .int x8] rfl (fun _ => rfl) rfl ?_
  refine dw_if (fun t => Φ t) ((Int32.toInt (m.1 x0 49)) ≤ (Int32.toInt x8)) [] 287 205 rfl (fun _ => rfl) (fun c0 => ?_) (fun c0 => ?_)
  · refine dw_g rfl ?_
    refine dg_L (pc' := 290) [(5, .int (x5 + (-1))), (0, .ref x0), (3, .int x3), (8, .int x8)] [] rfl (fun _ => rfl) rfl ?_
    refine dw_s (pc' := 26) [] rfl (fun _ => rfl) ?_
    exact dw_j rfl (fun lv1 hv => k26 (x5 + (-1)) m lv1 (hv.1 _ rfl) (hv.2.1 _ rfl) (hv.2.2.1 _ rfl))
  · refine dw_g rfl ?_
    refine dg_s (pc' := 207) [.int x5] rfl (fun _ => rfl) rfl ?_
    refine dg_s (pc' := 208) [.int x3, .int x5] rfl (fun _ => rfl) rfl ?_
    refine dw_if (fun t => Φ t) ((Int32.toInt x3) ≤ (Int32.toInt x5)) [] 287 211 rfl (fun _ => rfl) (fun c1 => ?_) (fun c1 => ?_)
    · refine dw_g rfl ?_
      refine dg_L (pc' := 290) [(5, .int (x5 + (-1))), (0, .ref x0), (3, .int x3), (8, .int x8)] [] rfl (fun _ => rfl) rfl ?_
      refine dw_s (pc' := 26) [] rfl (fun _ => rfl) ?_
      exact dw_j rfl (fun lv1 hv => k26 (x5 + (-1)) m lv1 (hv.1 _ rfl) (hv.2.1 _ rfl) (hv.2.2.1 _ rfl))
    · refine dw_g rfl ?_
      refine dg_s (pc' := 212) [.ref x0] rfl (fun _ => rfl) rfl ?_
      refine dg_s (pc' := 215) [.ref (x0 + 26)] rfl (fun _ => rfl) rfl ?_
      refine dg_s (pc' := 217) [.int x5, .ref (x0 + 26)] rfl (fun _ => rfl) rfl ?_
      refine dg_s (pc' := 219) [.int x8, .int x5, .ref (x0 + 26)] rfl (fun _ => rfl) rfl ?_
      refine dg_s (pc' := 220) [.int (1 : Int32), .int x8, .int x5, .ref (x0 + 26)] rfl (fun _ => rfl) rfl ?_
      refine dg_s (pc' := 221) [.int (x8 + (1 : Int32)), .int x5, .ref (x0 + 26)] rfl (fun _ => rfl) rfl ?_
      refine dg_m (pc' := 222) (dc_wi m (x0 + 26) (Int32.toNatClampNeg x5) (x8 + (1 : Int32))) [] rfl (fun _ => rfl) rfl ?_
      refine dg_s (pc' := 223) [.ref x0] rfl (fun _ => rfl) rfl ?_
      refine dg_s (pc' := 226) [.ref (x0 + 24)] rfl (fun _ => rfl) rfl ?_
      refine dg_s (pc' := 228) [.int x5, .ref (x0 + 24)] rfl (fun _ => rfl) rfl ?_
      refine dg_s (pc' := 229) [.int (1 : Int32), .int x5, .ref (x0 + 24)] rfl (fun _ => rfl) rfl ?_
      refine dg_s (pc' := 230) [.int (x5 + (1 : Int32)), .ref (x0 + 24)] rfl (fun _ => rfl) rfl ?_
      refine dg_s (pc' := 231) [.ref x0, .int (x5 + (1 : Int32)), .ref (x0 + 24)] rfl (fun _ => rfl) rfl ?_
      refine dg_s (pc' := 234) [.ref (x0 + 24), .int (x5 + (1 : Int32)), .ref (x0 + 24)] rfl (fun _ => rfl) rfl ?_
      refine dg_s (pc' := 236) [.int x5, .ref (x0 + 24), .int (x5 + (1 : Int32)), .ref (x0 + 24)] rfl (fun _ => rfl) rfl ?_
      refine dg_s (pc' := 237) [.long ((dc_wi m (x0 + 26) (Int32.toNatClampNeg x5) (x8 + (1 : Int32))).2.1 (x0 + 24) (Int32.toNatClampNeg x5)), .int (x5 + (1 : Int32)), .ref (x0 + 24)] rfl (fun _ => rfl) rfl ?_
      refine dg_s (pc' := 238) [.ref x0, .long ((dc_wi m (x0 + 26) (Int32.toNatClampNeg x5) (x8 + (1 : Int32))).2.1 (x0 + 24) (Int32.toNatClampNeg x5)), .int (x5 + (1 : Int32)), .ref (x0 + 24)] rfl (fun _ => rfl) rfl ?_
      refine dg_s (pc' := 241) [.ref (x0 + 22), .long ((dc_wi m (x0 + 26) (Int32.toNatClampNeg x5) (x8 + (1 : Int32))).2.1 (x0 + 24) (Int32.toNatClampNeg x5)), .int (x5 + (1 : Int32)), .ref (x0 + 24)] rfl (fun _ => rfl) rfl ?_
      refine dg_s (pc' := 243) [.int x8, .ref (x0 + 22), .long ((dc_wi m (x0 + 26) (Int32.toNatClampNeg x5) (x8 + (1 : Int32))).2.1 (x0 + 24) (Int32.toNatClampNeg x5)), .int (x5 + (1 : Int32)), .ref (x0 + 24)] rfl (fun _ => rfl) rfl ?_
      refine dg_s (pc' := 244) [.long ((dc_wi m (x0 + 26) (Int32.toNatClampNeg x5) (x8 + (1 : Int32))).2.1 (x0 + 22) (Int32.toNatClampNeg x8)), .long ((dc_wi m (x0 + 26) (Int32.toNatClampNeg x5) (x8 + (1 : Int32))).2.1 (x0 + 24) (Int32.toNatClampNeg x5)), .int (x5 + (1 : Int32)), .ref (x0 + 24)] rfl (fun _ => rfl) rfl ?_
      refine dg_s (pc' := 245) [.long (((dc_wi m (x0 + 26) (Int32.toNatClampNeg x5) (x8 + (1 : Int32))).2.1 (x0 + 24) (Int32.toNatClampNeg x5)) ||| ((dc_wi m (x0 + 26) (Int32.toNatClampNeg x5) (x8 + (1 : Int32))).2.1 (x0 + 22) (Int32.toNatClampNeg x8))), .int (x5 + (1 : Int32)), .ref (x0 + 24)] rfl (fun _ => rfl) rfl ?_
      refine dg_m (pc' := 246) (dc_wl (dc_wi m (x0 + 26) (Int32.toNatClampNeg x5) (x8 + (1 : Int32))) (x0 + 24) (Int32.toNatClampNeg (x5 + (1 : Int32))) (((dc_wi m (x0 + 26) (Int32.toNatClampNeg x5) (x8 + (1 : Int32))).2.1 (x0 + 24) (Int32.toNatClampNeg x5)) ||| ((dc_wi m (x0 + 26) (Int32.toNatClampNeg x5) (x8 + (1 : Int32))).2.1 (x0 + 22) (Int32.toNatClampNeg x8)))) [] rfl (fun _ => rfl) rfl ?_
      refine dg_s (pc' := 247) [.ref x0] rfl (fun _ => rfl) rfl ?_
      refine dg_s (pc' := 250) [.ref (x0 + 27)] rfl (fun _ => rfl) rfl ?_
      refine dg_s (pc' := 252) [.int x5, .ref (x0 + 27)] rfl (fun _ => rfl) rfl ?_
      refine dg_s (pc' := 253) [.int (1 : Int32), .int x5, .ref (x0 + 27)] rfl (fun _ => rfl) rfl ?_
      refine dg_s (pc' := 254) [.int (x5 + (1 : Int32)), .ref (x0 + 27)] rfl (fun _ => rfl) rfl ?_
      refine dg_s (pc' := 255) [.ref x0, .int (x5 + (1 : Int32)), .ref (x0 + 27)] rfl (fun _ => rfl) rfl ?_
      refine dg_s (pc' := 258) [.ref (x0 + 27), .int (x5 + (1 : Int32)), .ref (x0 + 27)] rfl (fun _ => rfl) rfl ?_
      refine dg_s (pc' := 260) [.int x5, .ref (x0 + 27), .int (x5 + (1 : Int32)), .ref (x0 + 27)] rfl (fun _ => rfl) rfl ?_
      refine dg_s (pc' := 261) [.int ((dc_wl (dc_wi m (x0 + 26) (Int32.toNatClampNeg x5) (x8 + (1 : Int32))) (x0 + 24) (Int32.toNatClampNeg (x5 + (1 : Int32))) (((dc_wi m (x0 + 26) (Int32.toNatClampNeg x5) (x8 + (1 : Int32))).2.1 (x0 + 24) (Int32.toNatClampNeg x5)) ||| ((dc_wi m (x0 + 26) (Int32.toNatClampNeg x5) (x8 + (1 : Int32))).2.1 (x0 + 22) (Int32.toNatClampNeg x8)))).1 (x0 + 27) (Int32.toNatClampNeg x5)), .int (x5 + (1 : Int32)), .ref (x0 + 27)] rfl (fun _ => rfl) rfl ?_
      refine dg_s (pc' := 262) [.ref x0, .int ((dc_wl (dc_wi m (x0 + 26) (Int32.toNatClampNeg x5) (x8 + (1 : Int32))) (x0 + 24) (Int32.toNatClampNeg (x5 + (1 : Int32))) (((dc_wi m (x0 + 26) (Int32.toNatClampNeg x5) (x8 + (1 : Int32))).2.1 (x0 + 24) (Int32.toNatClampNeg x5)) ||| ((dc_wi m (x0 + 26) (Int32.toNatClampNeg x5) (x8 + (1 : Int32))).2.1 (x0 + 22) (Int32.toNatClampNeg x8)))).1 (x0 + 27) (Int32.toNatClampNeg x5)), .int (x5 + (1 : Int32)), .ref (x0 + 27)] rfl (fun _ => rfl) rfl ?_
      refine dg_s (pc' := 265) [.ref (x0 + 23), .int ((dc_wl (dc_wi m (x0 + 26) (Int32.toNatClampNeg x5) (x8 + (1 : Int32))) (x0 + 24) (Int32.toNatClampNeg (x5 + (1 : Int32))) (((dc_wi m (x0 + 26) (Int32.toNatClampNeg x5) (x8 + (1 : Int32))).2.1 (x0 + 24) (Int32.toNatClampNeg x5)) ||| ((dc_wi m (x0 + 26) (Int32.toNatClampNeg x5) (x8 + (1 : Int32))).2.1 (x0 + 22) (Int32.toNatClampNeg x8)))).1 (x0 + 27) (Int32.toNatClampNeg x5)), .int (x5 + (1 : Int32)), .ref (x0 + 27)] rfl (fun _ => rfl) rfl ?_
      refine dg_s (pc' := 267) [.int x8, .ref (x0 + 23), .int ((dc_wl (dc_wi m (x0 + 26) (Int32.toNatClampNeg x5) (x8 + (1 : Int32))) (x0 + 24) (Int32.toNatClampNeg (x5 + (1 : Int32))) (((dc_wi m (x0 + 26) (Int32.toNatClampNeg x5) (x8 + (1 : Int32))).2.1 (x0 + 24) (Int32.toNatClampNeg x5)) ||| ((dc_wi m (x0 + 26) (Int32.toNatClampNeg x5) (x8 + (1 : Int32))).2.1 (x0 + 22) (Int32.toNatClampNeg x8)))).1 (x0 + 27) (Int32.toNatClampNeg x5)), .int (x5 + (1 : Int32)), .ref (x0 + 27)] rfl (fun _ => rfl) rfl ?_
      refine dg_s (pc' := 268) [.int ((dc_wl (dc_wi m (x0 + 26) (Int32.toNatClampNeg x5) (x8 + (1 : Int32))) (x0 + 24) (Int32.toNatClampNeg (x5 + (1 : Int32))) (((dc_wi m (x0 + 26) (Int32.toNatClampNeg x5) (x8 + (1 : Int32))).2.1 (x0 + 24) (Int32.toNatClampNeg x5)) ||| ((dc_wi m (x0 + 26) (Int32.toNatClampNeg x5) (x8 + (1 : Int32))).2.1 (x0 + 22) (Int32.toNatClampNeg x8)))).1 (x0 + 23) (Int32.toNatClampNeg x8)), .int ((dc_wl (dc_wi m (x0 + 26) (Int32.toNatClampNeg x5) (x8 + (1 : Int32))) (x0 + 24) (Int32.toNatClampNeg (x5 + (1 : Int32))) (((dc_wi m (x0 + 26) (Int32.toNatClampNeg x5) (x8 + (1 : Int32))).2.1 (x0 + 24) (Int32.toNatClampNeg x5)) ||| ((dc_wi m (x0 + 26) (Int32.toNatClampNeg x5) (x8 + (1 : Int32))).2.1 (x0 + 22) (Int32.toNatClampNeg x8)))).1 (x0 + 27) (Int32.toNatClampNeg x5)), .int (x5 + (1 : Int32)), .ref (x0 + 27)] rfl (fun _ => rfl) rfl ?_
      refine dg_s (pc' := 269) [.int (((dc_wl (dc_wi m (x0 + 26) (Int32.toNatClampNeg x5) (x8 + (1 : Int32))) (x0 + 24) (Int32.toNatClampNeg (x5 + (1 : Int32))) (((dc_wi m (x0 + 26) (Int32.toNatClampNeg x5) (x8 + (1 : Int32))).2.1 (x0 + 24) (Int32.toNatClampNeg x5)) ||| ((dc_wi m (x0 + 26) (Int32.toNatClampNeg x5) (x8 + (1 : Int32))).2.1 (x0 + 22) (Int32.toNatClampNeg x8)))).1 (x0 + 27) (Int32.toNatClampNeg x5)) - ((dc_wl (dc_wi m (x0 + 26) (Int32.toNatClampNeg x5) (x8 + (1 : Int32))) (x0 + 24) (Int32.toNatClampNeg (x5 + (1 : Int32))) (((dc_wi m (x0 + 26) (Int32.toNatClampNeg x5) (x8 + (1 : Int32))).2.1 (x0 + 24) (Int32.toNatClampNeg x5)) ||| ((dc_wi m (x0 + 26) (Int32.toNatClampNeg x5) (x8 + (1 : Int32))).2.1 (x0 + 22) (Int32.toNatClampNeg x8)))).1 (x0 + 23) (Int32.toNatClampNeg x8))), .int (x5 + (1 : Int32)), .ref (x0 + 27)] rfl (fun _ => rfl) rfl ?_
      refine dg_m (pc' := 270) (dc_wi (dc_wl (dc_wi m (x0 + 26) (Int32.toNatClampNeg x5) (x8 + (1 : Int32))) (x0 + 24) (Int32.toNatClampNeg (x5 + (1 : Int32))) (((dc_wi m (x0 + 26) (Int32.toNatClampNeg x5) (x8 + (1 : Int32))).2.1 (x0 + 24) (Int32.toNatClampNeg x5)) ||| ((dc_wi m (x0 + 26) (Int32.toNatClampNeg x5) (x8 + (1 : Int32))).2.1 (x0 + 22) (Int32.toNatClampNeg x8)))) (x0 + 27) (Int32.toNatClampNeg (x5 + (1 : Int32))) (((dc_wl (dc_wi m (x0 + 26) (Int32.toNatClampNeg x5) (x8 + (1 : Int32))) (x0 + 24) (Int32.toNatClampNeg (x5 + (1 : Int32))) (((dc_wi m (x0 + 26) (Int32.toNatClampNeg x5) (x8 + (1 : Int32))).2.1 (x0 + 24) (Int32.toNatClampNeg x5)) ||| ((dc_wi m (x0 + 26) (Int32.toNatClampNeg x5) (x8 + (1 : Int32))).2.1 (x0 + 22) (Int32.toNatClampNeg x8)))).1 (x0 + 27) (Int32.toNatClampNeg x5)) - ((dc_wl (dc_wi m (x0 + 26) (Int32.toNatClampNeg x5) (x8 + (1 : Int32))) (x0 + 24) (Int32.toNatClampNeg (x5 + (1 : Int32))) (((dc_wi m (x0 + 26) (Int32.toNatClampNeg x5) (x8 + (1 : Int32))).2.1 (x0 + 24) (Int32.toNatClampNeg x5)) ||| ((dc_wi m (x0 + 26) (Int32.toNatClampNeg x5) (x8 + (1 : Int32))).2.1 (x0 + 22) (Int32.toNatClampNeg x8)))).1 (x0 + 23) (Int32.toNatClampNeg x8)))) [] rfl (fun _ => rfl) rfl ?_
      refine dg_s (pc' := 271) [.ref x0] rfl (fun _ => rfl) rfl ?_
      refine dg_s (pc' := 274) [.ref (x0 + 25)] rfl (fun _ => rfl) rfl ?_
      refine dg_s (pc' := 276) [.int x5, .ref (x0 + 25)] rfl (fun _ => rfl) rfl ?_
      refine dg_s (pc' := 277) [.int (1 : Int32), .int x5, .ref (x0 + 25)] rfl (fun _ => rfl) rfl ?_
      refine dg_s (pc' := 278) [.int (x5 + (1 : Int32)), .ref (x0 + 25)] rfl (fun _ => rfl) rfl ?_
      refine dg_s (pc' := 280) [.int (-4 : Int32), .int (x5 + (1 : Int32)), .ref (x0 + 25)] rfl (fun _ => rfl) rfl ?_
      refine dg_m (pc' := 281) (dc_wi (dc_wi (dc_wl (dc_wi m (x0 + 26) (Int32.toNatClampNeg x5) (x8 + (1 : Int32))) (x0 + 24) (Int32.toNatClampNeg (x5 + (1 : Int32))) (((dc_wi m (x0 + 26) (Int32.toNatClampNeg x5) (x8 + (1 : Int32))).2.1 (x0 + 24) (Int32.toNatClampNeg x5)) ||| ((dc_wi m (x0 + 26) (Int32.toNatClampNeg x5) (x8 + (1 : Int32))).2.1 (x0 + 22) (Int32.toNatClampNeg x8)))) (x0 + 27) (Int32.toNatClampNeg (x5 + (1 : Int32))) (((dc_wl (dc_wi m (x0 + 26) (Int32.toNatClampNeg x5) (x8 + (1 : Int32))) (x0 + 24) (Int32.toNatClampNeg (x5 + (1 : Int32))) (((dc_wi m (x0 + 26) (Int32.toNatClampNeg x5) (x8 + (1 : Int32))).2.1 (x0 + 24) (Int32.toNatClampNeg x5)) ||| ((dc_wi m (x0 + 26) (Int32.toNatClampNeg x5) (x8 + (1 : Int32))).2.1 (x0 + 22) (Int32.toNatClampNeg x8)))).1 (x0 + 27) (Int32.toNatClampNeg x5)) - ((dc_wl (dc_wi m (x0 + 26) (Int32.toNatClampNeg x5) (x8 + (1 : Int32))) (x0 + 24) (Int32.toNatClampNeg (x5 + (1 : Int32))) (((dc_wi m (x0 + 26) (Int32.toNatClampNeg x5) (x8 + (1 : Int32))).2.1 (x0 + 24) (Int32.toNatClampNeg x5)) ||| ((dc_wi m (x0 + 26) (Int32.toNatClampNeg x5) (x8 + (1 : Int32))).2.1 (x0 + 22) (Int32.toNatClampNeg x8)))).1 (x0 + 23) (Int32.toNatClampNeg x8)))) (x0 + 25) (Int32.toNatClampNeg (x5 + (1 : Int32))) (-4 : Int32)) [] rfl (fun _ => rfl) rfl ?_
      refine dg_L (pc' := 284) [(5, .int (x5 + (1 : Int32))), (0, .ref x0), (3, .int x3), (8, .int x8)] [] rfl (fun _ => rfl) rfl ?_
      refine dg_s (pc' := 290) [] rfl (fun _ => rfl) rfl ?_
      refine dw_s (pc' := 26) [] rfl (fun _ => rfl) ?_
      exact dw_j rfl (fun lv1 hv => k26 (x5 + (1 : Int32)) (dc_wi (dc_wi (dc_wl (dc_wi m (x0 + 26) (Int32.toNatClampNeg x5) (x8 + (1 : Int32))) (x0 + 24) (Int32.toNatClampNeg (x5 + (1 : Int32))) (((dc_wi m (x0 + 26) (Int32.toNatClampNeg x5) (x8 + (1 : Int32))).2.1 (x0 + 24) (Int32.toNatClampNeg x5)) ||| ((dc_wi m (x0 + 26) (Int32.toNatClampNeg x5) (x8 + (1 : Int32))).2.1 (x0 + 22) (Int32.toNatClampNeg x8)))) (x0 + 27) (Int32.toNatClampNeg (x5 + (1 : Int32))) (((dc_wl (dc_wi m (x0 + 26) (Int32.toNatClampNeg x5) (x8 + (1 : Int32))) (x0 + 24) (Int32.toNatClampNeg (x5 + (1 : Int32))) (((dc_wi m (x0 + 26) (Int32.toNatClampNeg x5) (x8 + (1 : Int32))).2.1 (x0 + 24) (Int32.toNatClampNeg x5)) ||| ((dc_wi m (x0 + 26) (Int32.toNatClampNeg x5) (x8 + (1 : Int32))).2.1 (x0 + 22) (Int32.toNatClampNeg x8)))).1 (x0 + 27) (Int32.toNatClampNeg x5)) - ((dc_wl (dc_wi m (x0 + 26) (Int32.toNatClampNeg x5) (x8 + (1 : Int32))) (x0 + 24) (Int32.toNatClampNeg (x5 + (1 : Int32))) (((dc_wi m (x0 + 26) (Int32.toNatClampNeg x5) (x8 + (1 : Int32))).2.1 (x0 + 24) (Int32.toNatClampNeg x5)) ||| ((dc_wi m (x0 + 26) (Int32.toNatClampNeg x5) (x8 + (1 : Int32))).2.1 (x0 + 22) (Int32.toNatClampNeg x8)))).1 (x0 + 23) (Int32.toNatClampNeg x8)))) (x0 + 25) (Int32.toNatClampNeg (x5 + (1 : Int32))) (-4 : Int32)) lv1 (hv.1 _ rfl) (hv.2.1 _ rfl) (hv.2.2.1 _ rfl))
noncomputable def d_X10_canMake_l142b (x0 : Nat) (x3 : Int32) (x5 : Int32) (x8 : Int32) (m : dc_M) : Option (Int32 ⊕ ((Int32 × dc_M) ⊕ (Int32 × dc_M))) :=
  (if (Int32.toInt (m.1 x0 49)) ≤ (Int32.toInt x8) then ((d_X10_canMake_b196 x0 x3 x5 x8 m).map (fun z => Sum.inr (z))) else (if (Int32.toInt (lg_cmp (((m.2.1 (x0 + 22) (Int32.toNatClampNeg x8)) >>> (Int32.toInt64 (m.1 (x0 + 25) (Int32.toNatClampNeg x5)) &&& 63)) &&& (1 : Int64)) (0 : Int64))) = 0 then some (Sum.inl (x8 + (1 : Int32))) else (if (Int32.toInt (m.1 (x0 + 23) (Int32.toNatClampNeg x8))) ≤ (Int32.toInt (m.1 (x0 + 27) (Int32.toNatClampNeg x5))) then ((d_X10_canMake_b196 x0 x3 x5 x8 m).map (fun z => Sum.inr (z))) else some (Sum.inl (x8 + (1 : Int32))))))
noncomputable def d_X10_canMake_l142s (x0 : Nat) (x3 : Int32) (x5 : Int32) (m : dc_M) : Int32 → Option (Int32 ⊕ ((Int32 × dc_M) ⊕ (Int32 × dc_M))) := fun s => d_X10_canMake_l142b x0 x3 x5 s m
noncomputable def d_X10_canMake_l142 (x0 : Nat) (x3 : Int32) (x5 : Int32) (x8 : Int32) (m : dc_M) : Option ((Int32 × dc_M) ⊕ (Int32 × dc_M)) := dc_lp (d_X10_canMake_l142s x0 x3 x5 m) x8
set_option maxHeartbeats 8000000 in
theorem k_X10_canMake_l142 {u : Nat} {Φ : (Option ((Int32 × dc_M) ⊕ (Int32 × dc_M))) → Option Value → dc_M → Prop} (x0 : Nat) (x3 : Int32) (x5 : Int32) (m : dc_M) (kR : ∀ (v : Int32) (m : dc_M), Φ (some (Sum.inr ((v, m)))) (some (.int v)) m) : ∀ (N : Nat), (∀ (x5 : Int32) (m : dc_M) (lv : ab_L), ab_lk lv 0 = some (.ref x0) → ab_lk lv 3 = some (.int x3) → ab_lk lv 5 = some (.int x5) →  dc_pv u N ab_M_X10_canMake 26 lv [] m (Φ (some (Sum.inl (x5, m))))) → ∀ (x8 : Int32) (lv : ab_L), ab_lk lv 0 = some (.ref x0) → ab_lk lv 3 = some (.int x3) → ab_lk lv 5 = some (.int x5) → ab_lk lv 8 = some (.int x8) → dc_pv u N ab_M_X10_canMake 142 lv [] m (Φ (d_X10_canMake_l142 x0 x3 x5 x8 m)) := by
  intro N
  induction N with
  | zero => intros; exact dc_pv_zero
  | succ N ih =>
    intro k26 x8 lv f0 f3 f5 f8
    have k26 := fun a0 a1 a2 a3 a4 a5 => (k26 a0 a1 a2 a3 a4 a5).mono (Nat.le_succ N)
    have ih := ih k26
    refine dc_ok (C := C_X10_canMake) (S := S_X10_canMake) CO_X10_canMake 400 142 [(0, .ref x0), (3, .int x3), (5, .int x5), (8, .int x8)] lv [] m (dc_sub_cons f0 (dc_sub_cons f3 (dc_sub_cons f5 (dc_sub_cons f8 (dc_sub_nil))))) ?_
    unfold d_X10_canMake_l142
    rw [dc_lp_eq]
    show (fun t x => dc_lf u N ab_M_X10_canMake (Φ (Option.bind t (dc_bk (d_X10_canMake_l142s x0 x3 x5 m)))) x) (d_X10_canMake_l142b x0 x3 x5 x8 m) _
    dsimp only
    unfold d_X10_canMake_l142b
    refine dg_s (pc' := 144) [.int x8] rfl (fun _ => rfl) rfl ?_
    refine dg_s (pc' := 145) [.ref x0, .int x8] rfl (fun _ => rfl) rfl ?_
    refine dg_s (pc' := 148) [.int (m.1 x0 49), .int x8] rfl (fun _ => rfl) rfl ?_
    refine dw_if (fun t => Φ (Option.bind t (dc_bk (d_X10_canMake_l142s x0 x3 x5 m)))) ((Int32.toInt (m.1 x0 49)) ≤ (Int32.toInt x8)) [] 196 151 rfl (fun _ => rfl) (fun c0 => ?_) (fun c0 => ?_)
    · exact dw_j rfl (fun lv1 hv => k_X10_canMake_b196 (Φ := (fun t => Φ (Option.bind (t.map (fun z => Sum.inr (z))) (dc_bk (d_X10_canMake_l142s x0 x3 x5 m))))) x0 x3 x5 x8 m (fun _a _b => kR _a _b) k26 (hv.1 _ rfl) (hv.2.1 _ rfl) (hv.2.2.1 _ rfl) (hv.2.2.2.1 _ rfl))
    · refine dw_g rfl ?_
      refine dg_s (pc' := 152) [.ref x0] rfl (fun _ => rfl) rfl ?_
      refine dg_s (pc' := 155) [.ref (x0 + 22)] rfl (fun _ => rfl) rfl ?_
      refine dg_s (pc' := 157) [.int x8, .ref (x0 + 22)] rfl (fun _ => rfl) rfl ?_
      refine dg_s (pc' := 158) [.long (m.2.1 (x0 + 22) (Int32.toNatClampNeg x8))] rfl (fun _ => rfl) rfl ?_
      refine dg_s (pc' := 159) [.ref x0, .long (m.2.1 (x0 + 22) (Int32.toNatClampNeg x8))] rfl (fun _ => rfl) rfl ?_
      refine dg_s (pc' := 162) [.ref (x0 + 25), .long (m.2.1 (x0 + 22) (Int32.toNatClampNeg x8))] rfl (fun _ => rfl) rfl ?_
      refine dg_s (pc' := 164) [.int x5, .ref (x0 + 25), .long (m.2.1 (x0 + 22) (Int32.toNatClampNeg x8))] rfl (fun _ => rfl) rfl ?_
      refine dg_s (pc' := 165) [.int (m.1 (x0 + 25) (Int32.toNatClampNeg x5)), .long (m.2.1 (x0 + 22) (Int32.toNatClampNeg x8))] rfl (fun _ => rfl) rfl ?_
      refine dg_s (pc' := 166) [.long ((m.2.1 (x0 + 22) (Int32.toNatClampNeg x8)) >>> (Int32.toInt64 (m.1 (x0 + 25) (Int32.toNatClampNeg x5)) &&& 63))] rfl (fun _ => rfl) rfl ?_
      refine dg_s (pc' := 167) [.long (1 : Int64), .long ((m.2.1 (x0 + 22) (Int32.toNatClampNeg x8)) >>> (Int32.toInt64 (m.1 (x0 + 25) (Int32.toNatClampNeg x5)) &&& 63))] rfl (fun _ => rfl) rfl ?_
      refine dg_s (pc' := 168) [.long (((m.2.1 (x0 + 22) (Int32.toNatClampNeg x8)) >>> (Int32.toInt64 (m.1 (x0 + 25) (Int32.toNatClampNeg x5)) &&& 63)) &&& (1 : Int64))] rfl (fun _ => rfl) rfl ?_
      refine dg_s (pc' := 169) [.long (0 : Int64), .long (((m.2.1 (x0 + 22) (Int32.toNatClampNeg x8)) >>> (Int32.toInt64 (m.1 (x0 + 25) (Int32.toNatClampNeg x5)) &&& 63)) &&& (1 : Int64))] rfl (fun _ => rfl) rfl ?_
      refine dg_s (pc' := 170) [.int (lg_cmp (((m.2.1 (x0 + 22) (Int32.toNatClampNeg x8)) >>> (Int32.toInt64 (m.1 (x0 + 25) (Int32.toNatClampNeg x5)) &&& 63)) &&& (1 : Int64)) (0 : Int64))] rfl (fun _ => rfl) rfl ?_
      refine dw_if (fun t => Φ (Option.bind t (dc_bk (d_X10_canMake_l142s x0 x3 x5 m)))) ((Int32.toInt (lg_cmp (((m.2.1 (x0 + 22) (Int32.toNatClampNeg x8)) >>> (Int32.toInt64 (m.1 (x0 + 25) (Int32.toNatClampNeg x5)) &&& 63)) &&& (1 : Int64)) (0 : Int64))) = 0) [] 190 173 rfl (fun _ => rfl) (fun c1 => ?_) (fun c1 => ?_)
      · refine dw_g rfl ?_
        refine dg_L (pc' := 193) [(8, .int (x8 + (1 : Int32))), (0, .ref x0), (3, .int x3), (5, .int x5)] [] rfl (fun _ => rfl) rfl ?_
        refine dw_s (pc' := 142) [] rfl (fun _ => rfl) ?_
        exact dw_j rfl (fun lv1 hv => ih (x8 + (1 : Int32)) lv1 (hv.1 _ rfl) (hv.2.1 _ rfl) (hv.2.2.1 _ rfl) (hv.2.2.2.1 _ rfl))
      · refine dw_g rfl ?_
        refine dg_s (pc' := 174) [.ref x0] rfl (fun _ => rfl) rfl ?_
        refine dg_s (pc' := 177) [.ref (x0 + 23)] rfl (fun _ => rfl) rfl ?_
        refine dg_s (pc' := 179) [.int x8, .ref (x0 + 23)] rfl (fun _ => rfl) rfl ?_
        refine dg_s (pc' := 180) [.int (m.1 (x0 + 23) (Int32.toNatClampNeg x8))] rfl (fun _ => rfl) rfl ?_
        refine dg_s (pc' := 181) [.ref x0, .int (m.1 (x0 + 23) (Int32.toNatClampNeg x8))] rfl (fun _ => rfl) rfl ?_
        refine dg_s (pc' := 184) [.ref (x0 + 27), .int (m.1 (x0 + 23) (Int32.toNatClampNeg x8))] rfl (fun _ => rfl) rfl ?_
        refine dg_s (pc' := 186) [.int x5, .ref (x0 + 27), .int (m.1 (x0 + 23) (Int32.toNatClampNeg x8))] rfl (fun _ => rfl) rfl ?_
        refine dg_s (pc' := 187) [.int (m.1 (x0 + 27) (Int32.toNatClampNeg x5)), .int (m.1 (x0 + 23) (Int32.toNatClampNeg x8))] rfl (fun _ => rfl) rfl ?_
        refine dw_if (fun t => Φ (Option.bind t (dc_bk (d_X10_canMake_l142s x0 x3 x5 m)))) ((Int32.toInt (m.1 (x0 + 23) (Int32.toNatClampNeg x8))) ≤ (Int32.toInt (m.1 (x0 + 27) (Int32.toNatClampNeg x5)))) [] 196 190 rfl (fun _ => rfl) (fun c2 => ?_) (fun c2 => ?_)
        · exact dw_j rfl (fun lv1 hv => k_X10_canMake_b196 (Φ := (fun t => Φ (Option.bind (t.map (fun z => Sum.inr (z))) (dc_bk (d_X10_canMake_l142s x0 x3 x5 m))))) x0 x3 x5 x8 m (fun _a _b => kR _a _b) k26 (hv.1 _ rfl) (hv.2.1 _ rfl) (hv.2.2.1 _ rfl) (hv.2.2.2.1 _ rfl))
        · refine dw_g rfl ?_
          refine dg_L (pc' := 193) [(8, .int (x8 + (1 : Int32))), (0, .ref x0), (3, .int x3), (5, .int x5)] [] rfl (fun _ => rfl) rfl ?_
          refine dw_s (pc' := 142) [] rfl (fun _ => rfl) ?_
          exact dw_j rfl (fun lv1 hv => ih (x8 + (1 : Int32)) lv1 (hv.1 _ rfl) (hv.2.1 _ rfl) (hv.2.2.1 _ rfl) (hv.2.2.2.1 _ rfl))
noncomputable def d_X10_canMake_b115 (x0 : Nat) (x3 : Int32) (x5 : Int32) (m : dc_M) : Option ((Int32 × dc_M) ⊕ (Int32 × dc_M)) :=
  (if ¬ (Int32.toInt (m.1 (x0 + 25) (Int32.toNatClampNeg x5))) = (-1) then (d_X10_canMake_l142 x0 x3 x5 (m.1 (x0 + 26) (Int32.toNatClampNeg x5)) m) else (d_X10_canMake_l142 x0 x3 x5 (m.1 x0 49) m))
set_option maxHeartbeats 8000000 in
theorem k_X10_canMake_b115 {u : Nat} {N : Nat} {Φ : (Option ((Int32 × dc_M) ⊕ (Int32 × dc_M))) → Option Value → dc_M → Prop} (x0 : Nat) (x3 : Int32) (x5 : Int32) (m : dc_M) (kR : ∀ (v : Int32) (m : dc_M), Φ (some (Sum.inr ((v, m)))) (some (.int v)) m) (k26 : ∀ (x5 : Int32) (m : dc_M) (lv : ab_L), ab_lk lv 0 = some (.ref x0) → ab_lk lv 3 = some (.int x3) → ab_lk lv 5 = some (.int x5) →  dc_pv u N ab_M_X10_canMake 26 lv [] m (Φ (some (Sum.inl (x5, m))))) {lv : ab_L} (f0 : ab_lk lv 0 = some (.ref x0)) (f3 : ab_lk lv 3 = some (.int x3)) (f5 : ab_lk lv 5 = some (.int x5)) : dc_pv u N ab_M_X10_canMake 115 lv [] m (Φ (d_X10_canMake_b115 x0 x3 x5 m)) := by
  refine dc_pv.mono (dc_ok (C := C_X10_canMake) (S := S_X10_canMake) CO_X10_canMake 400 115 [(0, .ref x0), (3, .int x3), (5, .int x5)] lv [] m (dc_sub_cons f0 (dc_sub_cons f3 (dc_sub_cons f5 (dc_sub_nil)))) ?_) (Nat.le_succ N)
  unfold d_X10_canMake_b115
  refine dg_s (pc' := 116) [.ref x0] rfl (fun _ => rfl) rfl ?_
  refine dg_s (pc' := 119) [.ref (x0 + 25)] rfl (fun _ => rfl) rfl ?_
  refine dg_s (pc' := 121) [.int x5, .ref (x0 + 25)] rfl (fun _ => rfl) rfl ?_
  refine dg_s (pc' := 122) [.int (m.1 (x0 + 25) (Int32.toNatClampNeg x5))] rfl (fun _ => rfl) rfl ?_
  refine dg_s (pc' := 123) [.int (-1 : Int32), .int (m.1 (x0 + 25) (Int32.toNatClampNeg x5))] rfl (fun _ => rfl) rfl ?_
  refine dw_if (fun t => Φ t) (¬ (Int32.toInt (m.1 (x0 + 25) (Int32.toNatClampNeg x5))) = (-1)) [] 133 126 rfl (fun _ => rfl) (fun c0 => ?_) (fun c0 => ?_)
  · refine dw_g rfl ?_
    refine dg_s (pc' := 134) [.ref x0] rfl (fun _ => rfl) rfl ?_
    refine dg_s (pc' := 137) [.ref (x0 + 26)] rfl (fun _ => rfl) rfl ?_
    refine dg_s (pc' := 139) [.int x5, .ref (x0 + 26)] rfl (fun _ => rfl) rfl ?_
    refine dg_s (pc' := 140) [.int (m.1 (x0 + 26) (Int32.toNatClampNeg x5))] rfl (fun _ => rfl) rfl ?_
    refine dw_L (pc' := 142) [(8, .int (m.1 (x0 + 26) (Int32.toNatClampNeg x5))), (0, .ref x0), (3, .int x3), (5, .int x5)] [] rfl (fun _ => rfl) ?_
    exact dw_j rfl (fun lv1 hv => k_X10_canMake_l142 (Φ := (fun t => Φ t)) x0 x3 x5 m (fun _a _b => kR _a _b) N k26 (m.1 (x0 + 26) (Int32.toNatClampNeg x5)) lv1 (hv.1 _ rfl) (hv.2.1 _ rfl) (hv.2.2.1 _ rfl) (hv.2.2.2.1 _ rfl))
  · refine dw_g rfl ?_
    refine dg_s (pc' := 127) [.ref x0] rfl (fun _ => rfl) rfl ?_
    refine dg_s (pc' := 130) [.int (m.1 x0 49)] rfl (fun _ => rfl) rfl ?_
    refine dg_s (pc' := 140) [.int (m.1 x0 49)] rfl (fun _ => rfl) rfl ?_
    refine dw_L (pc' := 142) [(8, .int (m.1 x0 49)), (0, .ref x0), (3, .int x3), (5, .int x5)] [] rfl (fun _ => rfl) ?_
    exact dw_j rfl (fun lv1 hv => k_X10_canMake_l142 (Φ := (fun t => Φ t)) x0 x3 x5 m (fun _a _b => kR _a _b) N k26 (m.1 x0 49) lv1 (hv.1 _ rfl) (hv.2.1 _ rfl) (hv.2.2.1 _ rfl) (hv.2.2.2.1 _ rfl))
noncomputable def d_X10_canMake_l26b (x0 : Nat) (x3 : Int32) (x5 : Int32) (m : dc_M) : Option ((Int32 × dc_M) ⊕ (Int32 × dc_M)) :=
  (if (Int32.toInt x5) < 0 then some (Sum.inr (((0 : Int32), m))) else (if ¬ (Int32.toInt (lg_cmp ((m.2.1 x0 47) &&& ((m.2.1 (x0 + 24) (Int32.toNatClampNeg x5)) ^^^ (-1 : Int64))) (0 : Int64))) = 0 then (if ¬ (Int32.toInt (m.1 (x0 + 25) (Int32.toNatClampNeg x5))) = (-4) then (d_X10_canMake_b115 x0 x3 x5 m) else ((d_X10_isHopeless x0 ((m.2.1 x0 47) &&& ((m.2.1 (x0 + 24) (Int32.toNatClampNeg x5)) ^^^ (-1 : Int64))) (x3 - x5) (m.1 (x0 + 27) (Int32.toNatClampNeg x5)) m).bind (fun q1 => (if (Int32.toInt q1) = 0 then ((d_X10_hardest x0 ((m.2.1 x0 47) &&& ((m.2.1 (x0 + 24) (Int32.toNatClampNeg x5)) ^^^ (-1 : Int64))) m).bind (fun q2 => (d_X10_canMake_b115 x0 x3 x5 (dc_wi (dc_wi m (x0 + 25) (Int32.toNatClampNeg x5) q2) (x0 + 26) (Int32.toNatClampNeg x5) (0 : Int32))))) else (d_X10_canMake_b115 x0 x3 x5 (dc_wi (dc_wi m (x0 + 25) (Int32.toNatClampNeg x5) (-1 : Int32)) (x0 + 26) (Int32.toNatClampNeg x5) (0 : Int32))))))) else some (Sum.inr (((1 : Int32), m)))))
noncomputable def d_X10_canMake_l26s (x0 : Nat) (x3 : Int32) : (Int32 × dc_M) → Option ((Int32 × dc_M) ⊕ (Int32 × dc_M)) := fun s => d_X10_canMake_l26b x0 x3 s.1 s.2
noncomputable def d_X10_canMake_l26 (x0 : Nat) (x3 : Int32) (x5 : Int32) (m : dc_M) : Option (Int32 × dc_M) := dc_lp (d_X10_canMake_l26s x0 x3) (x5, m)
set_option maxHeartbeats 8000000 in
theorem k_X10_canMake_l26 {u : Nat} {Φ : (Option (Int32 × dc_M)) → Option Value → dc_M → Prop} (x0 : Nat) (x3 : Int32) (kR : ∀ (v : Int32) (m : dc_M), Φ (some ((v, m))) (some (.int v)) m) : ∀ (N : Nat), ∀ (x5 : Int32) (m : dc_M) (lv : ab_L), ab_lk lv 0 = some (.ref x0) → ab_lk lv 3 = some (.int x3) → ab_lk lv 5 = some (.int x5) → dc_pv u N ab_M_X10_canMake 26 lv [] m (Φ (d_X10_canMake_l26 x0 x3 x5 m)) := by
  intro N
  induction N with
  | zero => intros; exact dc_pv_zero
  | succ N ih =>
    intro x5 m lv f0 f3 f5
    refine dc_ok (C := C_X10_canMake) (S := S_X10_canMake) CO_X10_canMake 400 26 [(0, .ref x0), (3, .int x3), (5, .int x5)] lv [] m (dc_sub_cons f0 (dc_sub_cons f3 (dc_sub_cons f5 (dc_sub_nil)))) ?_
    unfold d_X10_canMake_l26
    rw [dc_lp_eq]
    show (fun t x => dc_lf u N ab_M_X10_canMake (Φ (Option.bind t (dc_bk (d_X10_canMake_l26s x0 x3)))) x) (d_X10_canMake_l26b x0 x3 x5 m) _
    dsimp only
    unfold d_X10_canMake_l26b
    refine dg_s (pc' := 28) [.int x5] rfl (fun _ => rfl) rfl ?_
    refine dw_if (fun t => Φ (Option.bind t (dc_bk (d_X10_canMake_l26s x0 x3)))) ((Int32.toInt x5) < 0) [] 293 31 rfl (fun _ => rfl) (fun c0 => ?_) (fun c0 => ?_)
    · refine dw_g rfl ?_
      refine dg_s (pc' := 294) [.int (0 : Int32)] rfl (fun _ => rfl) rfl ?_
      exact dw_r (some (.inl (some (.int (0 : Int32)), m))) rfl (fun _ => rfl) (kR _ _)
    · refine dw_g rfl ?_
      refine dg_s (pc' := 32) [.ref x0] rfl (fun _ => rfl) rfl ?_
      refine dg_s (pc' := 35) [.long (m.2.1 x0 47)] rfl (fun _ => rfl) rfl ?_
      refine dg_s (pc' := 36) [.ref x0, .long (m.2.1 x0 47)] rfl (fun _ => rfl) rfl ?_
      refine dg_s (pc' := 39) [.ref (x0 + 24), .long (m.2.1 x0 47)] rfl (fun _ => rfl) rfl ?_
      refine dg_s (pc' := 41) [.int x5, .ref (x0 + 24), .long (m.2.1 x0 47)] rfl (fun _ => rfl) rfl ?_
      refine dg_s (pc' := 42) [.long (m.2.1 (x0 + 24) (Int32.toNatClampNeg x5)), .long (m.2.1 x0 47)] rfl (fun _ => rfl) rfl ?_
      refine dg_s (pc' := 45) [.long (-1 : Int64), .long (m.2.1 (x0 + 24) (Int32.toNatClampNeg x5)), .long (m.2.1 x0 47)] rfl (fun _ => rfl) rfl ?_
      refine dg_s (pc' := 46) [.long ((m.2.1 (x0 + 24) (Int32.toNatClampNeg x5)) ^^^ (-1 : Int64)), .long (m.2.1 x0 47)] rfl (fun _ => rfl) rfl ?_
      refine dg_s (pc' := 47) [.long ((m.2.1 x0 47) &&& ((m.2.1 (x0 + 24) (Int32.toNatClampNeg x5)) ^^^ (-1 : Int64)))] rfl (fun _ => rfl) rfl ?_
      refine dg_L (pc' := 49) [(6, .long ((m.2.1 x0 47) &&& ((m.2.1 (x0 + 24) (Int32.toNatClampNeg x5)) ^^^ (-1 : Int64)))), (0, .ref x0), (3, .int x3), (5, .int x5)] [] rfl (fun _ => rfl) rfl ?_
      refine dg_s (pc' := 51) [.long ((m.2.1 x0 47) &&& ((m.2.1 (x0 + 24) (Int32.toNatClampNeg x5)) ^^^ (-1 : Int64)))] rfl (fun _ => rfl) rfl ?_
      refine dg_s (pc' := 52) [.long (0 : Int64), .long ((m.2.1 x0 47) &&& ((m.2.1 (x0 + 24) (Int32.toNatClampNeg x5)) ^^^ (-1 : Int64)))] rfl (fun _ => rfl) rfl ?_
      refine dg_s (pc' := 53) [.int (lg_cmp ((m.2.1 x0 47) &&& ((m.2.1 (x0 + 24) (Int32.toNatClampNeg x5)) ^^^ (-1 : Int64))) (0 : Int64))] rfl (fun _ => rfl) rfl ?_
      refine dw_if (fun t => Φ (Option.bind t (dc_bk (d_X10_canMake_l26s x0 x3)))) (¬ (Int32.toInt (lg_cmp ((m.2.1 x0 47) &&& ((m.2.1 (x0 + 24) (Int32.toNatClampNeg x5)) ^^^ (-1 : Int64))) (0 : Int64))) = 0) [] 58 56 rfl (fun _ => rfl) (fun c1 => ?_) (fun c1 => ?_)
      · refine dw_g rfl ?_
        refine dg_s (pc' := 59) [.ref x0] rfl (fun _ => rfl) rfl ?_
        refine dg_s (pc' := 62) [.ref (x0 + 25)] rfl (fun _ => rfl) rfl ?_
        refine dg_s (pc' := 64) [.int x5, .ref (x0 + 25)] rfl (fun _ => rfl) rfl ?_
        refine dg_s (pc' := 65) [.int (m.1 (x0 + 25) (Int32.toNatClampNeg x5))] rfl (fun _ => rfl) rfl ?_
        refine dg_s (pc' := 67) [.int (-4 : Int32), .int (m.1 (x0 + 25) (Int32.toNatClampNeg x5))] rfl (fun _ => rfl) rfl ?_
        refine dw_if (fun t => Φ (Option.bind t (dc_bk (d_X10_canMake_l26s x0 x3)))) (¬ (Int32.toInt (m.1 (x0 + 25) (Int32.toNatClampNeg x5))) = (-4)) [] 115 70 rfl (fun _ => rfl) (fun c2 => ?_) (fun c2 => ?_)
        · exact dw_j rfl (fun lv1 hv => k_X10_canMake_b115 (Φ := (fun t => Φ (Option.bind t (dc_bk (d_X10_canMake_l26s x0 x3))))) x0 x3 x5 m (fun _a _b => kR _a _b) ih (hv.1 _ rfl) (hv.2.1 _ rfl) (hv.2.2.1 _ rfl))
        · refine dw_g rfl ?_
          refine dg_s (pc' := 71) [.ref x0] rfl (fun _ => rfl) rfl ?_
          refine dg_s (pc' := 74) [.ref (x0 + 25)] rfl (fun _ => rfl) rfl ?_
          refine dg_s (pc' := 76) [.int x5, .ref (x0 + 25)] rfl (fun _ => rfl) rfl ?_
          refine dg_s (pc' := 77) [.ref x0, .int x5, .ref (x0 + 25)] rfl (fun _ => rfl) rfl ?_
          refine dg_s (pc' := 79) [.long ((m.2.1 x0 47) &&& ((m.2.1 (x0 + 24) (Int32.toNatClampNeg x5)) ^^^ (-1 : Int64))), .ref x0, .int x5, .ref (x0 + 25)] rfl (fun _ => rfl) rfl ?_
          refine dg_s (pc' := 80) [.int x3, .long ((m.2.1 x0 47) &&& ((m.2.1 (x0 + 24) (Int32.toNatClampNeg x5)) ^^^ (-1 : Int64))), .ref x0, .int x5, .ref (x0 + 25)] rfl (fun _ => rfl) rfl ?_
          refine dg_s (pc' := 82) [.int x5, .int x3, .long ((m.2.1 x0 47) &&& ((m.2.1 (x0 + 24) (Int32.toNatClampNeg x5)) ^^^ (-1 : Int64))), .ref x0, .int x5, .ref (x0 + 25)] rfl (fun _ => rfl) rfl ?_
          refine dg_s (pc' := 83) [.int (x3 - x5), .long ((m.2.1 x0 47) &&& ((m.2.1 (x0 + 24) (Int32.toNatClampNeg x5)) ^^^ (-1 : Int64))), .ref x0, .int x5, .ref (x0 + 25)] rfl (fun _ => rfl) rfl ?_
          refine dg_s (pc' := 84) [.ref x0, .int (x3 - x5), .long ((m.2.1 x0 47) &&& ((m.2.1 (x0 + 24) (Int32.toNatClampNeg x5)) ^^^ (-1 : Int64))), .ref x0, .int x5, .ref (x0 + 25)] rfl (fun _ => rfl) rfl ?_
          refine dg_s (pc' := 87) [.ref (x0 + 27), .int (x3 - x5), .long ((m.2.1 x0 47) &&& ((m.2.1 (x0 + 24) (Int32.toNatClampNeg x5)) ^^^ (-1 : Int64))), .ref x0, .int x5, .ref (x0 + 25)] rfl (fun _ => rfl) rfl ?_
          refine dg_s (pc' := 89) [.int x5, .ref (x0 + 27), .int (x3 - x5), .long ((m.2.1 x0 47) &&& ((m.2.1 (x0 + 24) (Int32.toNatClampNeg x5)) ^^^ (-1 : Int64))), .ref x0, .int x5, .ref (x0 + 25)] rfl (fun _ => rfl) rfl ?_
          refine dg_s (pc' := 90) [.int (m.1 (x0 + 27) (Int32.toNatClampNeg x5)), .int (x3 - x5), .long ((m.2.1 x0 47) &&& ((m.2.1 (x0 + 24) (Int32.toNatClampNeg x5)) ^^^ (-1 : Int64))), .ref x0, .int x5, .ref (x0 + 25)] rfl (fun _ => rfl) rfl ?_
          refine dw_b (fun t => Φ (Option.bind t (dc_bk (d_X10_canMake_l26s x0 x3)))) (pc' := 93) (fun q1 => [.int q1, .int x5, .ref (x0 + 25)]) (fun q1 => m) rfl (fun _ => rfl) (fun q1 => ?_)
          refine dw_g rfl ?_
          refine dw_if (fun t => Φ (Option.bind t (dc_bk (d_X10_canMake_l26s x0 x3)))) ((Int32.toInt q1) = 0) [.int x5, .ref (x0 + 25)] 100 96 rfl (fun _ => rfl) (fun c3 => ?_) (fun c3 => ?_)
          · refine dw_g rfl ?_
            refine dg_s (pc' := 101) [.ref x0, .int x5, .ref (x0 + 25)] rfl (fun _ => rfl) rfl ?_
            refine dg_s (pc' := 103) [.long ((m.2.1 x0 47) &&& ((m.2.1 (x0 + 24) (Int32.toNatClampNeg x5)) ^^^ (-1 : Int64))), .ref x0, .int x5, .ref (x0 + 25)] rfl (fun _ => rfl) rfl ?_
            refine dw_b (fun t => Φ (Option.bind t (dc_bk (d_X10_canMake_l26s x0 x3)))) (pc' := 106) (fun q2 => [.int q2, .int x5, .ref (x0 + 25)]) (fun q2 => m) rfl (fun _ => rfl) (fun q2 => ?_)
            refine dw_g rfl ?_
            refine dg_m (pc' := 107) (dc_wi m (x0 + 25) (Int32.toNatClampNeg x5) q2) [] rfl (fun _ => rfl) rfl ?_
            refine dg_s (pc' := 108) [.ref x0] rfl (fun _ => rfl) rfl ?_
            refine dg_s (pc' := 111) [.ref (x0 + 26)] rfl (fun _ => rfl) rfl ?_
            refine dg_s (pc' := 113) [.int x5, .ref (x0 + 26)] rfl (fun _ => rfl) rfl ?_
            refine dg_s (pc' := 114) [.int (0 : Int32), .int x5, .ref (x0 + 26)] rfl (fun _ => rfl) rfl ?_
            refine dw_m (pc' := 115) (dc_wi (dc_wi m (x0 + 25) (Int32.toNatClampNeg x5) q2) (x0 + 26) (Int32.toNatClampNeg x5) (0 : Int32)) [] rfl (fun _ => rfl) ?_
            exact dw_j rfl (fun lv1 hv => k_X10_canMake_b115 (Φ := (fun t => Φ (Option.bind t (dc_bk (d_X10_canMake_l26s x0 x3))))) x0 x3 x5 (dc_wi (dc_wi m (x0 + 25) (Int32.toNatClampNeg x5) q2) (x0 + 26) (Int32.toNatClampNeg x5) (0 : Int32)) (fun _a _b => kR _a _b) ih (hv.1 _ rfl) (hv.2.1 _ rfl) (hv.2.2.1 _ rfl))
          · refine dw_g rfl ?_
            refine dg_s (pc' := 97) [.int (-1 : Int32), .int x5, .ref (x0 + 25)] rfl (fun _ => rfl) rfl ?_
            refine dg_s (pc' := 106) [.int (-1 : Int32), .int x5, .ref (x0 + 25)] rfl (fun _ => rfl) rfl ?_
            refine dg_m (pc' := 107) (dc_wi m (x0 + 25) (Int32.toNatClampNeg x5) (-1 : Int32)) [] rfl (fun _ => rfl) rfl ?_
            refine dg_s (pc' := 108) [.ref x0] rfl (fun _ => rfl) rfl ?_
            refine dg_s (pc' := 111) [.ref (x0 + 26)] rfl (fun _ => rfl) rfl ?_
            refine dg_s (pc' := 113) [.int x5, .ref (x0 + 26)] rfl (fun _ => rfl) rfl ?_
            refine dg_s (pc' := 114) [.int (0 : Int32), .int x5, .ref (x0 + 26)] rfl (fun _ => rfl) rfl ?_
            refine dw_m (pc' := 115) (dc_wi (dc_wi m (x0 + 25) (Int32.toNatClampNeg x5) (-1 : Int32)) (x0 + 26) (Int32.toNatClampNeg x5) (0 : Int32)) [] rfl (fun _ => rfl) ?_
            exact dw_j rfl (fun lv1 hv => k_X10_canMake_b115 (Φ := (fun t => Φ (Option.bind t (dc_bk (d_X10_canMake_l26s x0 x3))))) x0 x3 x5 (dc_wi (dc_wi m (x0 + 25) (Int32.toNatClampNeg x5) (-1 : Int32)) (x0 + 26) (Int32.toNatClampNeg x5) (0 : Int32)) (fun _a _b => kR _a _b) ih (hv.1 _ rfl) (hv.2.1 _ rfl) (hv.2.2.1 _ rfl))
      · refine dw_g rfl ?_
        refine dg_s (pc' := 57) [.int (1 : Int32)] rfl (fun _ => rfl) rfl ?_
        exact dw_r (some (.inl (some (.int (1 : Int32)), m))) rfl (fun _ => rfl) (kR _ _)
noncomputable def d_X10_canMake (x0 : Nat) (x1 : Int64) (x3 : Int32) (x4 : Int32) (m : dc_M) : Option (Int32 × dc_M) :=
  (d_X10_canMake_l26 x0 x3 (0 : Int32) (dc_wi (dc_wi (dc_wl m (x0 + 24) (Int32.toNatClampNeg (0 : Int32)) x1) (x0 + 27) (Int32.toNatClampNeg (0 : Int32)) x4) (x0 + 25) (Int32.toNatClampNeg (0 : Int32)) (-4 : Int32)))
set_option maxHeartbeats 8000000 in
theorem k_X10_canMake {u : Nat} {N : Nat} {Φ : (Option (Int32 × dc_M)) → Option Value → dc_M → Prop} (x0 : Nat) (x1 : Int64) (x3 : Int32) (x4 : Int32) (m : dc_M) (kR : ∀ (v : Int32) (m : dc_M), Φ (some ((v, m))) (some (.int v)) m)  {lv : ab_L} (f0 : ab_lk lv 0 = some (.ref x0)) (f1 : ab_lk lv 1 = some (.long x1)) (f3 : ab_lk lv 3 = some (.int x3)) (f4 : ab_lk lv 4 = some (.int x4)) : dc_pv u N ab_M_X10_canMake 0 lv [] m (Φ (d_X10_canMake x0 x1 x3 x4 m)) := by
  refine dc_pv.mono (dc_ok (C := C_X10_canMake) (S := S_X10_canMake) CO_X10_canMake 400 0 [(0, .ref x0), (1, .long x1), (3, .int x3), (4, .int x4)] lv [] m (dc_sub_cons f0 (dc_sub_cons f1 (dc_sub_cons f3 (dc_sub_cons f4 (dc_sub_nil))))) ?_) (Nat.le_succ N)
  unfold d_X10_canMake
  refine dg_s (pc' := 1) [.int (0 : Int32)] rfl (fun _ => rfl) rfl ?_
  refine dg_L (pc' := 3) [(5, .int (0 : Int32)), (0, .ref x0), (1, .long x1), (3, .int x3), (4, .int x4)] [] rfl (fun _ => rfl) rfl ?_
  refine dg_s (pc' := 4) [.ref x0] rfl (fun _ => rfl) rfl ?_
  refine dg_s (pc' := 7) [.ref (x0 + 24)] rfl (fun _ => rfl) rfl ?_
  refine dg_s (pc' := 8) [.int (0 : Int32), .ref (x0 + 24)] rfl (fun _ => rfl) rfl ?_
  refine dg_s (pc' := 9) [.long x1, .int (0 : Int32), .ref (x0 + 24)] rfl (fun _ => rfl) rfl ?_
  refine dg_m (pc' := 10) (dc_wl m (x0 + 24) (Int32.toNatClampNeg (0 : Int32)) x1) [] rfl (fun _ => rfl) rfl ?_
  refine dg_s (pc' := 11) [.ref x0] rfl (fun _ => rfl) rfl ?_
  refine dg_s (pc' := 14) [.ref (x0 + 27)] rfl (fun _ => rfl) rfl ?_
  refine dg_s (pc' := 15) [.int (0 : Int32), .ref (x0 + 27)] rfl (fun _ => rfl) rfl ?_
  refine dg_s (pc' := 17) [.int x4, .int (0 : Int32), .ref (x0 + 27)] rfl (fun _ => rfl) rfl ?_
  refine dg_m (pc' := 18) (dc_wi (dc_wl m (x0 + 24) (Int32.toNatClampNeg (0 : Int32)) x1) (x0 + 27) (Int32.toNatClampNeg (0 : Int32)) x4) [] rfl (fun _ => rfl) rfl ?_
  refine dg_s (pc' := 19) [.ref x0] rfl (fun _ => rfl) rfl ?_
  refine dg_s (pc' := 22) [.ref (x0 + 25)] rfl (fun _ => rfl) rfl ?_
  refine dg_s (pc' := 23) [.int (0 : Int32), .ref (x0 + 25)] rfl (fun _ => rfl) rfl ?_
  refine dg_s (pc' := 25) [.int (-4 : Int32), .int (0 : Int32), .ref (x0 + 25)] rfl (fun _ => rfl) rfl ?_
  refine dw_m (pc' := 26) (dc_wi (dc_wi (dc_wl m (x0 + 24) (Int32.toNatClampNeg (0 : Int32)) x1) (x0 + 27) (Int32.toNatClampNeg (0 : Int32)) x4) (x0 + 25) (Int32.toNatClampNeg (0 : Int32)) (-4 : Int32)) [] rfl (fun _ => rfl) ?_
  exact dw_j rfl (fun lv1 hv => k_X10_canMake_l26 (Φ := (fun t => Φ t)) x0 x3 (fun _a _b => kR _a _b) N  (0 : Int32) (dc_wi (dc_wi (dc_wl m (x0 + 24) (Int32.toNatClampNeg (0 : Int32)) x1) (x0 + 27) (Int32.toNatClampNeg (0 : Int32)) x4) (x0 + 25) (Int32.toNatClampNeg (0 : Int32)) (-4 : Int32)) lv1 (hv.1 _ rfl) (hv.2.1 _ rfl) (hv.2.2.1 _ rfl))
noncomputable def H_X10_canMake : dc_H := fun As m k => match As with
  | [.ref x0, .long x1, .int x3, .int x4] => (d_X10_canMake x0 x1 x3 x4 m).bind (fun q => k (some (.int q.1)) q.2)
  | _ => dc_kz
theorem H_X10_canMake_ok {u : Nat} : dc_cok u 196 H_X10_canMake := fun M' hG N As m k P hz hP => by
  obtain rfl : ab_M_X10_canMake = M' := Option.some.inj hG
  unfold H_X10_canMake at hP
  split at hP
  · rename_i x0 x1 x3 x4
    exact dc_pv.imp (k_X10_canMake (Φ := fun (t : Option (Int32 × dc_M)) r m' => P (t.bind (fun q => k (some (.int q.1)) q.2)) → P (k r m')) x0 x1 x3 x4 m (fun _ _ h => h) rfl rfl rfl rfl) (fun r m' h => h hP)
  · exact absurd hP hz
noncomputable def C_X10_cubeAt : List (Nat × dc_H) := [(196, H_X10_canMake)]
theorem CO_X10_cubeAt {u : Nat} : dc_CO u C_X10_cubeAt := dc_CO_cons H_X10_canMake_ok (dc_CO_nil)
def S_X10_cubeAt : List (Nat × List Nat) := [(20, [0, 1, 2, 4, 5, 6, 7]), (41, [0, 1, 2, 4, 5, 7, 8, 10]), (62, [0, 1, 2, 4, 5, 6, 7, 10]), (127, [0, 1, 2, 4, 5, 6, 7])]
noncomputable def d_X10_cubeAt_b127 (x0 : Nat) (x1 : Int32) (x2 : Int64) (x4 : Int32) (x5 : Int32) (x6 : Int32) (x7 : Int32) (m : dc_M) : Option ((Int64 × Int32 × Int32 × Int32 × Int32 × dc_M) ⊕ (Int32 × dc_M)) :=
  some (Sum.inl ((x2 ||| (m.2.1 (x0 + 22) (Int32.toNatClampNeg x6))), (x4 + (-1)), (x5 - (m.1 (x0 + 23) (Int32.toNatClampNeg x6))), x6, (x7 + (1 : Int32)), m))
set_option maxHeartbeats 8000000 in
theorem k_X10_cubeAt_b127 {u : Nat} {N : Nat} {Φ : (Option ((Int64 × Int32 × Int32 × Int32 × Int32 × dc_M) ⊕ (Int32 × dc_M))) → Option Value → dc_M → Prop} (x0 : Nat) (x1 : Int32) (x2 : Int64) (x4 : Int32) (x5 : Int32) (x6 : Int32) (x7 : Int32) (m : dc_M) (kR : ∀ (v : Int32) (m : dc_M), Φ (some (Sum.inr ((v, m)))) (some (.int v)) m) (k20 : ∀ (x2 : Int64) (x4 : Int32) (x5 : Int32) (x6 : Int32) (x7 : Int32) (m : dc_M) (lv : ab_L), ab_lk lv 0 = some (.ref x0) → ab_lk lv 1 = some (.int x1) → ab_lk lv 2 = some (.long x2) → ab_lk lv 4 = some (.int x4) → ab_lk lv 5 = some (.int x5) → ab_lk lv 6 = some (.int x6) → ab_lk lv 7 = some (.int x7) →  dc_pv u N ab_M_X10_cubeAt 20 lv [] m (Φ (some (Sum.inl (x2, x4, x5, x6, x7, m))))) {lv : ab_L} (f0 : ab_lk lv 0 = some (.ref x0)) (f1 : ab_lk lv 1 = some (.int x1)) (f2 : ab_lk lv 2 = some (.long x2)) (f4 : ab_lk lv 4 = some (.int x4)) (f5 : ab_lk lv 5 = some (.int x5)) (f6 : ab_lk lv 6 = some (.int x6)) (f7 : ab_lk lv 7 = some (.int x7)) : dc_pv u N ab_M_X10_cubeAt 127 lv [] m (Φ (d_X10_cubeAt_b127 x0 x1 x2 x4 x5 x6 x7 m)) := by
  refine dc_pv.mono (dc_ok (C := C_X10_cubeAt) (S := S_X10_cubeAt) CO_X10_cubeAt 400 127 [(0, .ref x0), (1, .int x1), (2, .long x2), (4, .int x4), (5, .int x5), (6, .int x6), (7, .int x7)] lv [] m (dc_sub_cons f0 (dc_sub_cons f1 (dc_sub_cons f2 (dc_sub_cons f4 (dc_sub_cons f5 (dc_sub_cons f6 (dc_sub_cons f7 (dc_sub_nil)))))))) ?_) (Nat.le_succ N)
  unfold d_X10_cubeAt_b127
  refine dg_s (pc' := 128) [.long x2] rfl (fun _ => rfl) rfl ?_
  refine dg_s (pc' := 129) [.ref x0, .long x2] rfl (fun _ => rfl) rfl ?_
  refine dg_s (pc' := 132) [.ref (x0 + 22), .long x2] rfl (fun _ => rfl) rfl ?_
  refine dg_s (pc' := 134) [.int x6, .ref (x0 + 22), .long x2] rfl (fun _ => rfl) rfl ?_
  refine dg_s (pc' := 135) [.long (m.2.1 (x0 + 22) (Int32.toNatClampNeg x6)), .long x2] rfl (fun _ => rfl) rfl ?_
  refine dg_s (pc' := 136) [.long (x2 ||| (m.2.1 (x0 + 22) (Int32.toNatClampNeg x6)))] rfl (fun _ => rfl) rfl ?_
  refine dg_L (pc' := 137) [(2, .long (x2 ||| (m.2.1 (x0 + 22) (Int32.toNatClampNeg x6)))), (0, .ref x0), (1, .int x1), (4, .int x4), (5, .int x5), (6, .int x6), (7, .int x7)] [] rfl (fun _ => rfl) rfl ?_
  refine dg_L (pc' := 140) [(4, .int (x4 + (-1))), (2, .long (x2 ||| (m.2.1 (x0 + 22) (Int32.toNatClampNeg x6)))), (0, .ref x0), (1, .int x1), (5, .int x5), (6, .int x6), (7, .int x7)] [] rfl (fun _ => rfl) rfl ?_
  refine dg_s (pc' := 142) [.int x5] rfl (fun _ => rfl) rfl ?_
  refine dg_s (pc' := 143) [.ref x0, .int x5] rfl (fun _ => rfl) rfl ?_
  refine dg_s (pc' := 146) [.ref (x0 + 23), .int x5] rfl (fun _ => rfl) rfl ?_
  refine dg_s (pc' := 148) [.int x6, .ref (x0 + 23), .int x5] rfl (fun _ => rfl) rfl ?_
  refine dg_s (pc' := 149) [.int (m.1 (x0 + 23) (Int32.toNatClampNeg x6)), .int x5] rfl (fun _ => rfl) rfl ?_
  refine dg_s (pc' := 150) [.int (x5 - (m.1 (x0 + 23) (Int32.toNatClampNeg x6)))] rfl (fun _ => rfl) rfl ?_
  refine dg_L (pc' := 152) [(5, .int (x5 - (m.1 (x0 + 23) (Int32.toNatClampNeg x6)))), (4, .int (x4 + (-1))), (2, .long (x2 ||| (m.2.1 (x0 + 22) (Int32.toNatClampNeg x6)))), (0, .ref x0), (1, .int x1), (6, .int x6), (7, .int x7)] [] rfl (fun _ => rfl) rfl ?_
  refine dg_L (pc' := 155) [(7, .int (x7 + (1 : Int32))), (5, .int (x5 - (m.1 (x0 + 23) (Int32.toNatClampNeg x6)))), (4, .int (x4 + (-1))), (2, .long (x2 ||| (m.2.1 (x0 + 22) (Int32.toNatClampNeg x6)))), (0, .ref x0), (1, .int x1), (6, .int x6)] [] rfl (fun _ => rfl) rfl ?_
  refine dw_s (pc' := 20) [] rfl (fun _ => rfl) ?_
  exact dw_j rfl (fun lv1 hv => k20 (x2 ||| (m.2.1 (x0 + 22) (Int32.toNatClampNeg x6))) (x4 + (-1)) (x5 - (m.1 (x0 + 23) (Int32.toNatClampNeg x6))) x6 (x7 + (1 : Int32)) m lv1 (hv.1 _ rfl) (hv.2.1 _ rfl) (hv.2.2.1 _ rfl) (hv.2.2.2.1 _ rfl) (hv.2.2.2.2.1 _ rfl) (hv.2.2.2.2.2.1 _ rfl) (hv.2.2.2.2.2.2.1 _ rfl))
noncomputable def d_X10_cubeAt_l62b (x0 : Nat) (x1 : Int32) (x2 : Int64) (x4 : Int32) (x5 : Int32) (x7 : Int32) (x10 : Int32) (x6 : Int32) (m : dc_M) : Option ((Int32 × dc_M) ⊕ ((Int64 × Int32 × Int32 × Int32 × Int32 × dc_M) ⊕ (Int32 × dc_M))) :=
  (if (Int32.toInt (lg_cmp (((m.2.1 (x0 + 22) (Int32.toNatClampNeg x6)) >>> (Int32.toInt64 x10 &&& 63)) &&& (1 : Int64)) (0 : Int64))) = 0 then some (Sum.inl ((x6 + (1 : Int32)), m)) else (if (Int32.toInt x5) < (Int32.toInt (m.1 (x0 + 23) (Int32.toNatClampNeg x6))) then some (Sum.inl ((x6 + (1 : Int32)), m)) else ((d_X10_canMake x0 (x2 ||| (m.2.1 (x0 + 22) (Int32.toNatClampNeg x6))) (x4 - (1 : Int32)) (x5 - (m.1 (x0 + 23) (Int32.toNatClampNeg x6))) m).bind (fun q1 => (if ¬ (Int32.toInt q1.1) = 0 then ((d_X10_cubeAt_b127 x0 x1 x2 x4 x5 x6 x7 q1.2).map (fun z => Sum.inr (z))) else some (Sum.inl ((x6 + (1 : Int32)), q1.2)))))))
noncomputable def d_X10_cubeAt_l62s (x0 : Nat) (x1 : Int32) (x2 : Int64) (x4 : Int32) (x5 : Int32) (x7 : Int32) (x10 : Int32) : (Int32 × dc_M) → Option ((Int32 × dc_M) ⊕ ((Int64 × Int32 × Int32 × Int32 × Int32 × dc_M) ⊕ (Int32 × dc_M))) := fun s => d_X10_cubeAt_l62b x0 x1 x2 x4 x5 x7 x10 s.1 s.2
noncomputable def d_X10_cubeAt_l62 (x0 : Nat) (x1 : Int32) (x2 : Int64) (x4 : Int32) (x5 : Int32) (x7 : Int32) (x10 : Int32) (x6 : Int32) (m : dc_M) : Option ((Int64 × Int32 × Int32 × Int32 × Int32 × dc_M) ⊕ (Int32 × dc_M)) := dc_lp (d_X10_cubeAt_l62s x0 x1 x2 x4 x5 x7 x10) (x6, m)
set_option maxHeartbeats 8000000 in
theorem k_X10_cubeAt_l62 {u : Nat} {Φ : (Option ((Int64 × Int32 × Int32 × Int32 × Int32 × dc_M) ⊕ (Int32 × dc_M))) → Option Value → dc_M → Prop} (x0 : Nat) (x1 : Int32) (x2 : Int64) (x4 : Int32) (x5 : Int32) (x7 : Int32) (x10 : Int32) (kR : ∀ (v : Int32) (m : dc_M), Φ (some (Sum.inr ((v, m)))) (some (.int v)) m) : ∀ (N : Nat), (∀ (x2 : Int64) (x4 : Int32) (x5 : Int32) (x6 : Int32) (x7 : Int32) (m : dc_M) (lv : ab_L), ab_lk lv 0 = some (.ref x0) → ab_lk lv 1 = some (.int x1) → ab_lk lv 2 = some (.long x2) → ab_lk lv 4 = some (.int x4) → ab_lk lv 5 = some (.int x5) → ab_lk lv 6 = some (.int x6) → ab_lk lv 7 = some (.int x7) →  dc_pv u N ab_M_X10_cubeAt 20 lv [] m (Φ (some (Sum.inl (x2, x4, x5, x6, x7, m))))) → ∀ (x6 : Int32) (m : dc_M) (lv : ab_L), ab_lk lv 0 = some (.ref x0) → ab_lk lv 1 = some (.int x1) → ab_lk lv 2 = some (.long x2) → ab_lk lv 4 = some (.int x4) → ab_lk lv 5 = some (.int x5) → ab_lk lv 6 = some (.int x6) → ab_lk lv 7 = some (.int x7) → ab_lk lv 10 = some (.int x10) → dc_pv u N ab_M_X10_cubeAt 62 lv [] m (Φ (d_X10_cubeAt_l62 x0 x1 x2 x4 x5 x7 x10 x6 m)) := by
  intro N
  induction N with
  | zero => intros; exact dc_pv_zero
  | succ N ih =>
    intro k20 x6 m lv f0 f1 f2 f4 f5 f6 f7 f10
    have k20 := fun a0 a1 a2 a3 a4 a5 a6 a7 a8 a9 a10 a11 a12 a13 => (k20 a0 a1 a2 a3 a4 a5 a6 a7 a8 a9 a10 a11 a12 a13).mono (Nat.le_succ N)
    have ih := ih k20
    refine dc_ok (C := C_X10_cubeAt) (S := S_X10_cubeAt) CO_X10_cubeAt 400 62 [(0, .ref x0), (1, .int x1), (2, .long x2), (4, .int x4), (5, .int x5), (6, .int x6), (7, .int x7), (10, .int x10)] lv [] m (dc_sub_cons f0 (dc_sub_cons f1 (dc_sub_cons f2 (dc_sub_cons f4 (dc_sub_cons f5 (dc_sub_cons f6 (dc_sub_cons f7 (dc_sub_cons f10 (dc_sub_nil))))))))) ?_
    unfold d_X10_cubeAt_l62
    rw [dc_lp_eq]
    show (fun t x => dc_lf u N ab_M_X10_cubeAt (Φ (Option.bind t (dc_bk (d_X10_cubeAt_l62s x0 x1 x2 x4 x5 x7 x10)))) x) (d_X10_cubeAt_l62b x0 x1 x2 x4 x5 x7 x10 x6 m) _
    dsimp only
    unfold d_X10_cubeAt_l62b
    refine dg_s (pc' := 63) [.ref x0] rfl (fun _ => rfl) rfl ?_
    refine dg_s (pc' := 66) [.ref (x0 + 22)] rfl (fun _ => rfl) rfl ?_
    refine dg_s (pc' := 68) [.int x6, .ref (x0 + 22)] rfl (fun _ => rfl) rfl ?_
    refine dg_s (pc' := 69) [.long (m.2.1 (x0 + 22) (Int32.toNatClampNeg x6))] rfl (fun _ => rfl) rfl ?_
    refine dg_s (pc' := 71) [.int x10, .long (m.2.1 (x0 + 22) (Int32.toNatClampNeg x6))] rfl (fun _ => rfl) rfl ?_
    refine dg_s (pc' := 72) [.long ((m.2.1 (x0 + 22) (Int32.toNatClampNeg x6)) >>> (Int32.toInt64 x10 &&& 63))] rfl (fun _ => rfl) rfl ?_
    refine dg_s (pc' := 73) [.long (1 : Int64), .long ((m.2.1 (x0 + 22) (Int32.toNatClampNeg x6)) >>> (Int32.toInt64 x10 &&& 63))] rfl (fun _ => rfl) rfl ?_
    refine dg_s (pc' := 74) [.long (((m.2.1 (x0 + 22) (Int32.toNatClampNeg x6)) >>> (Int32.toInt64 x10 &&& 63)) &&& (1 : Int64))] rfl (fun _ => rfl) rfl ?_
    refine dg_s (pc' := 75) [.long (0 : Int64), .long (((m.2.1 (x0 + 22) (Int32.toNatClampNeg x6)) >>> (Int32.toInt64 x10 &&& 63)) &&& (1 : Int64))] rfl (fun _ => rfl) rfl ?_
    refine dg_s (pc' := 76) [.int (lg_cmp (((m.2.1 (x0 + 22) (Int32.toNatClampNeg x6)) >>> (Int32.toInt64 x10 &&& 63)) &&& (1 : Int64)) (0 : Int64))] rfl (fun _ => rfl) rfl ?_
    refine dw_if (fun t => Φ (Option.bind t (dc_bk (d_X10_cubeAt_l62s x0 x1 x2 x4 x5 x7 x10)))) ((Int32.toInt (lg_cmp (((m.2.1 (x0 + 22) (Int32.toNatClampNeg x6)) >>> (Int32.toInt64 x10 &&& 63)) &&& (1 : Int64)) (0 : Int64))) = 0) [] 121 79 rfl (fun _ => rfl) (fun c0 => ?_) (fun c0 => ?_)
    · refine dw_g rfl ?_
      refine dg_L (pc' := 124) [(6, .int (x6 + (1 : Int32))), (0, .ref x0), (1, .int x1), (2, .long x2), (4, .int x4), (5, .int x5), (7, .int x7), (10, .int x10)] [] rfl (fun _ => rfl) rfl ?_
      refine dw_s (pc' := 62) [] rfl (fun _ => rfl) ?_
      exact dw_j rfl (fun lv1 hv => ih (x6 + (1 : Int32)) m lv1 (hv.1 _ rfl) (hv.2.1 _ rfl) (hv.2.2.1 _ rfl) (hv.2.2.2.1 _ rfl) (hv.2.2.2.2.1 _ rfl) (hv.2.2.2.2.2.1 _ rfl) (hv.2.2.2.2.2.2.1 _ rfl) (hv.2.2.2.2.2.2.2.1 _ rfl))
    · refine dw_g rfl ?_
      refine dg_s (pc' := 80) [.ref x0] rfl (fun _ => rfl) rfl ?_
      refine dg_s (pc' := 83) [.ref (x0 + 23)] rfl (fun _ => rfl) rfl ?_
      refine dg_s (pc' := 85) [.int x6, .ref (x0 + 23)] rfl (fun _ => rfl) rfl ?_
      refine dg_s (pc' := 86) [.int (m.1 (x0 + 23) (Int32.toNatClampNeg x6))] rfl (fun _ => rfl) rfl ?_
      refine dg_s (pc' := 88) [.int x5, .int (m.1 (x0 + 23) (Int32.toNatClampNeg x6))] rfl (fun _ => rfl) rfl ?_
      refine dw_if (fun t => Φ (Option.bind t (dc_bk (d_X10_cubeAt_l62s x0 x1 x2 x4 x5 x7 x10)))) ((Int32.toInt x5) < (Int32.toInt (m.1 (x0 + 23) (Int32.toNatClampNeg x6)))) [] 121 91 rfl (fun _ => rfl) (fun c1 => ?_) (fun c1 => ?_)
      · refine dw_g rfl ?_
        refine dg_L (pc' := 124) [(6, .int (x6 + (1 : Int32))), (0, .ref x0), (1, .int x1), (2, .long x2), (4, .int x4), (5, .int x5), (7, .int x7), (10, .int x10)] [] rfl (fun _ => rfl) rfl ?_
        refine dw_s (pc' := 62) [] rfl (fun _ => rfl) ?_
        exact dw_j rfl (fun lv1 hv => ih (x6 + (1 : Int32)) m lv1 (hv.1 _ rfl) (hv.2.1 _ rfl) (hv.2.2.1 _ rfl) (hv.2.2.2.1 _ rfl) (hv.2.2.2.2.1 _ rfl) (hv.2.2.2.2.2.1 _ rfl) (hv.2.2.2.2.2.2.1 _ rfl) (hv.2.2.2.2.2.2.2.1 _ rfl))
      · refine dw_g rfl ?_
        refine dg_s (pc' := 92) [.ref x0] rfl (fun _ => rfl) rfl ?_
        refine dg_s (pc' := 93) [.long x2, .ref x0] rfl (fun _ => rfl) rfl ?_
        refine dg_s (pc' := 94) [.ref x0, .long x2, .ref x0] rfl (fun _ => rfl) rfl ?_
        refine dg_s (pc' := 97) [.ref (x0 + 22), .long x2, .ref x0] rfl (fun _ => rfl) rfl ?_
        refine dg_s (pc' := 99) [.int x6, .ref (x0 + 22), .long x2, .ref x0] rfl (fun _ => rfl) rfl ?_
        refine dg_s (pc' := 100) [.long (m.2.1 (x0 + 22) (Int32.toNatClampNeg x6)), .long x2, .ref x0] rfl (fun _ => rfl) rfl ?_
        refine dg_s (pc' := 101) [.long (x2 ||| (m.2.1 (x0 + 22) (Int32.toNatClampNeg x6))), .ref x0] rfl (fun _ => rfl) rfl ?_
        refine dg_s (pc' := 103) [.int x4, .long (x2 ||| (m.2.1 (x0 + 22) (Int32.toNatClampNeg x6))), .ref x0] rfl (fun _ => rfl) rfl ?_
        refine dg_s (pc' := 104) [.int (1 : Int32), .int x4, .long (x2 ||| (m.2.1 (x0 + 22) (Int32.toNatClampNeg x6))), .ref x0] rfl (fun _ => rfl) rfl ?_
        refine dg_s (pc' := 105) [.int (x4 - (1 : Int32)), .long (x2 ||| (m.2.1 (x0 + 22) (Int32.toNatClampNeg x6))), .ref x0] rfl (fun _ => rfl) rfl ?_
        refine dg_s (pc' := 107) [.int x5, .int (x4 - (1 : Int32)), .long (x2 ||| (m.2.1 (x0 + 22) (Int32.toNatClampNeg x6))), .ref x0] rfl (fun _ => rfl) rfl ?_
        refine dg_s (pc' := 108) [.ref x0, .int x5, .int (x4 - (1 : Int32)), .long (x2 ||| (m.2.1 (x0 + 22) (Int32.toNatClampNeg x6))), .ref x0] rfl (fun _ => rfl) rfl ?_
        refine dg_s (pc' := 111) [.ref (x0 + 23), .int x5, .int (x4 - (1 : Int32)), .long (x2 ||| (m.2.1 (x0 + 22) (Int32.toNatClampNeg x6))), .ref x0] rfl (fun _ => rfl) rfl ?_
        refine dg_s (pc' := 113) [.int x6, .ref (x0 + 23), .int x5, .int (x4 - (1 : Int32)), .long (x2 ||| (m.2.1 (x0 + 22) (Int32.toNatClampNeg x6))), .ref x0] rfl (fun _ => rfl) rfl ?_
        refine dg_s (pc' := 114) [.int (m.1 (x0 + 23) (Int32.toNatClampNeg x6)), .int x5, .int (x4 - (1 : Int32)), .long (x2 ||| (m.2.1 (x0 + 22) (Int32.toNatClampNeg x6))), .ref x0] rfl (fun _ => rfl) rfl ?_
        refine dg_s (pc' := 115) [.int (x5 - (m.1 (x0 + 23) (Int32.toNatClampNeg x6))), .int (x4 - (1 : Int32)), .long (x2 ||| (m.2.1 (x0 + 22) (Int32.toNatClampNeg x6))), .ref x0] rfl (fun _ => rfl) rfl ?_
        refine dw_b (fun t => Φ (Option.bind t (dc_bk (d_X10_cubeAt_l62s x0 x1 x2 x4 x5 x7 x10)))) (pc' := 118) (fun q1 => [.int q1.1]) (fun q1 => q1.2) rfl (fun _ => rfl) (fun q1 => ?_)
        refine dw_g rfl ?_
        refine dw_if (fun t => Φ (Option.bind t (dc_bk (d_X10_cubeAt_l62s x0 x1 x2 x4 x5 x7 x10)))) (¬ (Int32.toInt q1.1) = 0) [] 127 121 rfl (fun _ => rfl) (fun c2 => ?_) (fun c2 => ?_)
        · exact dw_j rfl (fun lv1 hv => k_X10_cubeAt_b127 (Φ := (fun t => Φ (Option.bind (t.map (fun z => Sum.inr (z))) (dc_bk (d_X10_cubeAt_l62s x0 x1 x2 x4 x5 x7 x10))))) x0 x1 x2 x4 x5 x6 x7 q1.2 (fun _a _b => kR _a _b) k20 (hv.1 _ rfl) (hv.2.1 _ rfl) (hv.2.2.1 _ rfl) (hv.2.2.2.1 _ rfl) (hv.2.2.2.2.1 _ rfl) (hv.2.2.2.2.2.1 _ rfl) (hv.2.2.2.2.2.2.1 _ rfl))
        · refine dw_g rfl ?_
          refine dg_L (pc' := 124) [(6, .int (x6 + (1 : Int32))), (0, .ref x0), (1, .int x1), (2, .long x2), (4, .int x4), (5, .int x5), (7, .int x7), (10, .int x10)] [] rfl (fun _ => rfl) rfl ?_
          refine dw_s (pc' := 62) [] rfl (fun _ => rfl) ?_
          exact dw_j rfl (fun lv1 hv => ih (x6 + (1 : Int32)) q1.2 lv1 (hv.1 _ rfl) (hv.2.1 _ rfl) (hv.2.2.1 _ rfl) (hv.2.2.2.1 _ rfl) (hv.2.2.2.2.1 _ rfl) (hv.2.2.2.2.2.1 _ rfl) (hv.2.2.2.2.2.2.1 _ rfl) (hv.2.2.2.2.2.2.2.1 _ rfl))
noncomputable def d_X10_cubeAt_l41b (x0 : Nat) (x1 : Int32) (x2 : Int64) (x4 : Int32) (x5 : Int32) (x7 : Int32) (x8 : Int64) (x10 : Int32) (m : dc_M) : Option (Int32 ⊕ ((Int64 × Int32 × Int32 × Int32 × Int32 × dc_M) ⊕ (Int32 × dc_M))) :=
  (if ¬ (Int32.toInt (lg_cmp ((x8 >>> (Int32.toInt64 x10 &&& 63)) &&& (1 : Int64)) (0 : Int64))) = 0 then ((d_X10_cubeAt_l62 x0 x1 x2 x4 x5 x7 x10 (0 : Int32) m).map (fun z => Sum.inr (z))) else some (Sum.inl (x10 + (1 : Int32))))
noncomputable def d_X10_cubeAt_l41s (x0 : Nat) (x1 : Int32) (x2 : Int64) (x4 : Int32) (x5 : Int32) (x7 : Int32) (x8 : Int64) (m : dc_M) : Int32 → Option (Int32 ⊕ ((Int64 × Int32 × Int32 × Int32 × Int32 × dc_M) ⊕ (Int32 × dc_M))) := fun s => d_X10_cubeAt_l41b x0 x1 x2 x4 x5 x7 x8 s m
noncomputable def d_X10_cubeAt_l41 (x0 : Nat) (x1 : Int32) (x2 : Int64) (x4 : Int32) (x5 : Int32) (x7 : Int32) (x8 : Int64) (x10 : Int32) (m : dc_M) : Option ((Int64 × Int32 × Int32 × Int32 × Int32 × dc_M) ⊕ (Int32 × dc_M)) := dc_lp (d_X10_cubeAt_l41s x0 x1 x2 x4 x5 x7 x8 m) x10
set_option maxHeartbeats 8000000 in
theorem k_X10_cubeAt_l41 {u : Nat} {Φ : (Option ((Int64 × Int32 × Int32 × Int32 × Int32 × dc_M) ⊕ (Int32 × dc_M))) → Option Value → dc_M → Prop} (x0 : Nat) (x1 : Int32) (x2 : Int64) (x4 : Int32) (x5 : Int32) (x7 : Int32) (x8 : Int64) (m : dc_M) (kR : ∀ (v : Int32) (m : dc_M), Φ (some (Sum.inr ((v, m)))) (some (.int v)) m) : ∀ (N : Nat), (∀ (x2 : Int64) (x4 : Int32) (x5 : Int32) (x6 : Int32) (x7 : Int32) (m : dc_M) (lv : ab_L), ab_lk lv 0 = some (.ref x0) → ab_lk lv 1 = some (.int x1) → ab_lk lv 2 = some (.long x2) → ab_lk lv 4 = some (.int x4) → ab_lk lv 5 = some (.int x5) → ab_lk lv 6 = some (.int x6) → ab_lk lv 7 = some (.int x7) →  dc_pv u N ab_M_X10_cubeAt 20 lv [] m (Φ (some (Sum.inl (x2, x4, x5, x6, x7, m))))) → ∀ (x10 : Int32) (lv : ab_L), ab_lk lv 0 = some (.ref x0) → ab_lk lv 1 = some (.int x1) → ab_lk lv 2 = some (.long x2) → ab_lk lv 4 = some (.int x4) → ab_lk lv 5 = some (.int x5) → ab_lk lv 7 = some (.int x7) → ab_lk lv 8 = some (.long x8) → ab_lk lv 10 = some (.int x10) → dc_pv u N ab_M_X10_cubeAt 41 lv [] m (Φ (d_X10_cubeAt_l41 x0 x1 x2 x4 x5 x7 x8 x10 m)) := by
  intro N
  induction N with
  | zero => intros; exact dc_pv_zero
  | succ N ih =>
    intro k20 x10 lv f0 f1 f2 f4 f5 f7 f8 f10
    have k20 := fun a0 a1 a2 a3 a4 a5 a6 a7 a8 a9 a10 a11 a12 a13 => (k20 a0 a1 a2 a3 a4 a5 a6 a7 a8 a9 a10 a11 a12 a13).mono (Nat.le_succ N)
    have ih := ih k20
    refine dc_ok (C := C_X10_cubeAt) (S := S_X10_cubeAt) CO_X10_cubeAt 400 41 [(0, .ref x0), (1, .int x1), (2, .long x2), (4, .int x4), (5, .int x5), (7, .int x7), (8, .long x8), (10, .int x10)] lv [] m (dc_sub_cons f0 (dc_sub_cons f1 (dc_sub_cons f2 (dc_sub_cons f4 (dc_sub_cons f5 (dc_sub_cons f7 (dc_sub_cons f8 (dc_sub_cons f10 (dc_sub_nil))))))))) ?_
    unfold d_X10_cubeAt_l41
    rw [dc_lp_eq]
    show (fun t x => dc_lf u N ab_M_X10_cubeAt (Φ (Option.bind t (dc_bk (d_X10_cubeAt_l41s x0 x1 x2 x4 x5 x7 x8 m)))) x) (d_X10_cubeAt_l41b x0 x1 x2 x4 x5 x7 x8 x10 m) _
    dsimp only
    unfold d_X10_cubeAt_l41b
    refine dg_s (pc' := 43) [.long x8] rfl (fun _ => rfl) rfl ?_
    refine dg_s (pc' := 45) [.int x10, .long x8] rfl (fun _ => rfl) rfl ?_
    refine dg_s (pc' := 46) [.long (x8 >>> (Int32.toInt64 x10 &&& 63))] rfl (fun _ => rfl) rfl ?_
    refine dg_s (pc' := 47) [.long (1 : Int64), .long (x8 >>> (Int32.toInt64 x10 &&& 63))] rfl (fun _ => rfl) rfl ?_
    refine dg_s (pc' := 48) [.long ((x8 >>> (Int32.toInt64 x10 &&& 63)) &&& (1 : Int64))] rfl (fun _ => rfl) rfl ?_
    refine dg_s (pc' := 49) [.long (0 : Int64), .long ((x8 >>> (Int32.toInt64 x10 &&& 63)) &&& (1 : Int64))] rfl (fun _ => rfl) rfl ?_
    refine dg_s (pc' := 50) [.int (lg_cmp ((x8 >>> (Int32.toInt64 x10 &&& 63)) &&& (1 : Int64)) (0 : Int64))] rfl (fun _ => rfl) rfl ?_
    refine dw_if (fun t => Φ (Option.bind t (dc_bk (d_X10_cubeAt_l41s x0 x1 x2 x4 x5 x7 x8 m)))) (¬ (Int32.toInt (lg_cmp ((x8 >>> (Int32.toInt64 x10 &&& 63)) &&& (1 : Int64)) (0 : Int64))) = 0) [] 59 53 rfl (fun _ => rfl) (fun c0 => ?_) (fun c0 => ?_)
    · refine dw_g rfl ?_
      refine dg_s (pc' := 60) [.int (0 : Int32)] rfl (fun _ => rfl) rfl ?_
      refine dw_L (pc' := 62) [(6, .int (0 : Int32)), (0, .ref x0), (1, .int x1), (2, .long x2), (4, .int x4), (5, .int x5), (7, .int x7), (8, .long x8), (10, .int x10)] [] rfl (fun _ => rfl) ?_
      exact dw_j rfl (fun lv1 hv => k_X10_cubeAt_l62 (Φ := (fun t => Φ (Option.bind (t.map (fun z => Sum.inr (z))) (dc_bk (d_X10_cubeAt_l41s x0 x1 x2 x4 x5 x7 x8 m))))) x0 x1 x2 x4 x5 x7 x10 (fun _a _b => kR _a _b) N k20 (0 : Int32) m lv1 (hv.1 _ rfl) (hv.2.1 _ rfl) (hv.2.2.1 _ rfl) (hv.2.2.2.1 _ rfl) (hv.2.2.2.2.1 _ rfl) (hv.2.2.2.2.2.1 _ rfl) (hv.2.2.2.2.2.2.1 _ rfl) (hv.2.2.2.2.2.2.2.1 _ rfl))
    · refine dw_g rfl ?_
      refine dg_L (pc' := 56) [(10, .int (x10 + (1 : Int32))), (0, .ref x0), (1, .int x1), (2, .long x2), (4, .int x4), (5, .int x5), (7, .int x7), (8, .long x8)] [] rfl (fun _ => rfl) rfl ?_
      refine dw_s (pc' := 41) [] rfl (fun _ => rfl) ?_
      exact dw_j rfl (fun lv1 hv => ih (x10 + (1 : Int32)) lv1 (hv.1 _ rfl) (hv.2.1 _ rfl) (hv.2.2.1 _ rfl) (hv.2.2.2.1 _ rfl) (hv.2.2.2.2.1 _ rfl) (hv.2.2.2.2.2.1 _ rfl) (hv.2.2.2.2.2.2.1 _ rfl) (hv.2.2.2.2.2.2.2.1 _ rfl))
noncomputable def d_X10_cubeAt_l20b (x0 : Nat) (x1 : Int32) (x2 : Int64) (x4 : Int32) (x5 : Int32) (x6 : Int32) (x7 : Int32) (m : dc_M) : Option ((Int64 × Int32 × Int32 × Int32 × Int32 × dc_M) ⊕ (Int32 × dc_M)) :=
  (if (Int32.toInt x1) < (Int32.toInt x7) then some (Sum.inr (((m.1 (x0 + 21) (Int32.toNatClampNeg x6)), m))) else (d_X10_cubeAt_l41 x0 x1 x2 x4 x5 x7 ((m.2.1 x0 47) &&& (x2 ^^^ (-1 : Int64))) (0 : Int32) m))
noncomputable def d_X10_cubeAt_l20s (x0 : Nat) (x1 : Int32) : (Int64 × Int32 × Int32 × Int32 × Int32 × dc_M) → Option ((Int64 × Int32 × Int32 × Int32 × Int32 × dc_M) ⊕ (Int32 × dc_M)) := fun s => d_X10_cubeAt_l20b x0 x1 s.1 s.2.1 s.2.2.1 s.2.2.2.1 s.2.2.2.2.1 s.2.2.2.2.2
noncomputable def d_X10_cubeAt_l20 (x0 : Nat) (x1 : Int32) (x2 : Int64) (x4 : Int32) (x5 : Int32) (x6 : Int32) (x7 : Int32) (m : dc_M) : Option (Int32 × dc_M) := dc_lp (d_X10_cubeAt_l20s x0 x1) (x2, x4, x5, x6, x7, m)
set_option maxHeartbeats 8000000 in
theorem k_X10_cubeAt_l20 {u : Nat} {Φ : (Option (Int32 × dc_M)) → Option Value → dc_M → Prop} (x0 : Nat) (x1 : Int32) (kR : ∀ (v : Int32) (m : dc_M), Φ (some ((v, m))) (some (.int v)) m) : ∀ (N : Nat), ∀ (x2 : Int64) (x4 : Int32) (x5 : Int32) (x6 : Int32) (x7 : Int32) (m : dc_M) (lv : ab_L), ab_lk lv 0 = some (.ref x0) → ab_lk lv 1 = some (.int x1) → ab_lk lv 2 = some (.long x2) → ab_lk lv 4 = some (.int x4) → ab_lk lv 5 = some (.int x5) → ab_lk lv 6 = some (.int x6) → ab_lk lv 7 = some (.int x7) → dc_pv u N ab_M_X10_cubeAt 20 lv [] m (Φ (d_X10_cubeAt_l20 x0 x1 x2 x4 x5 x6 x7 m)) := by
  intro N
  induction N with
  | zero => intros; exact dc_pv_zero
  | succ N ih =>
    intro x2 x4 x5 x6 x7 m lv f0 f1 f2 f4 f5 f6 f7
    refine dc_ok (C := C_X10_cubeAt) (S := S_X10_cubeAt) CO_X10_cubeAt 400 20 [(0, .ref x0), (1, .int x1), (2, .long x2), (4, .int x4), (5, .int x5), (6, .int x6), (7, .int x7)] lv [] m (dc_sub_cons f0 (dc_sub_cons f1 (dc_sub_cons f2 (dc_sub_cons f4 (dc_sub_cons f5 (dc_sub_cons f6 (dc_sub_cons f7 (dc_sub_nil)))))))) ?_
    unfold d_X10_cubeAt_l20
    rw [dc_lp_eq]
    show (fun t x => dc_lf u N ab_M_X10_cubeAt (Φ (Option.bind t (dc_bk (d_X10_cubeAt_l20s x0 x1)))) x) (d_X10_cubeAt_l20b x0 x1 x2 x4 x5 x6 x7 m) _
    dsimp only
    unfold d_X10_cubeAt_l20b
    refine dg_s (pc' := 22) [.int x7] rfl (fun _ => rfl) rfl ?_
    refine dg_s (pc' := 23) [.int x1, .int x7] rfl (fun _ => rfl) rfl ?_
    refine dw_if (fun t => Φ (Option.bind t (dc_bk (d_X10_cubeAt_l20s x0 x1)))) ((Int32.toInt x1) < (Int32.toInt x7)) [] 158 26 rfl (fun _ => rfl) (fun c0 => ?_) (fun c0 => ?_)
    · refine dw_g rfl ?_
      refine dg_s (pc' := 159) [.ref x0] rfl (fun _ => rfl) rfl ?_
      refine dg_s (pc' := 162) [.ref (x0 + 21)] rfl (fun _ => rfl) rfl ?_
      refine dg_s (pc' := 164) [.int x6, .ref (x0 + 21)] rfl (fun _ => rfl) rfl ?_
      refine dg_s (pc' := 165) [.int (m.1 (x0 + 21) (Int32.toNatClampNeg x6))] rfl (fun _ => rfl) rfl ?_
      exact dw_r (some (.inl (some (.int (m.1 (x0 + 21) (Int32.toNatClampNeg x6))), m))) rfl (fun _ => rfl) (kR _ _)
    · refine dw_g rfl ?_
      refine dg_s (pc' := 27) [.ref x0] rfl (fun _ => rfl) rfl ?_
      refine dg_s (pc' := 30) [.long (m.2.1 x0 47)] rfl (fun _ => rfl) rfl ?_
      refine dg_s (pc' := 31) [.long x2, .long (m.2.1 x0 47)] rfl (fun _ => rfl) rfl ?_
      refine dg_s (pc' := 34) [.long (-1 : Int64), .long x2, .long (m.2.1 x0 47)] rfl (fun _ => rfl) rfl ?_
      refine dg_s (pc' := 35) [.long (x2 ^^^ (-1 : Int64)), .long (m.2.1 x0 47)] rfl (fun _ => rfl) rfl ?_
      refine dg_s (pc' := 36) [.long ((m.2.1 x0 47) &&& (x2 ^^^ (-1 : Int64)))] rfl (fun _ => rfl) rfl ?_
      refine dg_L (pc' := 38) [(8, .long ((m.2.1 x0 47) &&& (x2 ^^^ (-1 : Int64)))), (0, .ref x0), (1, .int x1), (2, .long x2), (4, .int x4), (5, .int x5), (6, .int x6), (7, .int x7)] [] rfl (fun _ => rfl) rfl ?_
      refine dg_s (pc' := 39) [.int (0 : Int32)] rfl (fun _ => rfl) rfl ?_
      refine dw_L (pc' := 41) [(10, .int (0 : Int32)), (8, .long ((m.2.1 x0 47) &&& (x2 ^^^ (-1 : Int64)))), (0, .ref x0), (1, .int x1), (2, .long x2), (4, .int x4), (5, .int x5), (6, .int x6), (7, .int x7)] [] rfl (fun _ => rfl) ?_
      exact dw_j rfl (fun lv1 hv => k_X10_cubeAt_l41 (Φ := (fun t => Φ (Option.bind t (dc_bk (d_X10_cubeAt_l20s x0 x1))))) x0 x1 x2 x4 x5 x7 ((m.2.1 x0 47) &&& (x2 ^^^ (-1 : Int64))) m (fun _a _b => kR _a _b) N ih (0 : Int32) lv1 (hv.1 _ rfl) (hv.2.1 _ rfl) (hv.2.2.1 _ rfl) (hv.2.2.2.1 _ rfl) (hv.2.2.2.2.1 _ rfl) (hv.2.2.2.2.2.1 _ rfl) (hv.2.2.2.2.2.2.1 _ rfl) (hv.2.2.2.2.2.2.2.1 _ rfl))
noncomputable def d_X10_cubeAt (x0 : Nat) (x1 : Int32) (m : dc_M) : Option (Int32 × dc_M) :=
  (d_X10_cubeAt_l20 x0 x1 (0 : Int64) (m.1 x0 57) (m.1 x0 58) (0 : Int32) (0 : Int32) m)
set_option maxHeartbeats 8000000 in
theorem k_X10_cubeAt {u : Nat} {N : Nat} {Φ : (Option (Int32 × dc_M)) → Option Value → dc_M → Prop} (x0 : Nat) (x1 : Int32) (m : dc_M) (kR : ∀ (v : Int32) (m : dc_M), Φ (some ((v, m))) (some (.int v)) m)  {lv : ab_L} (f0 : ab_lk lv 0 = some (.ref x0)) (f1 : ab_lk lv 1 = some (.int x1)) : dc_pv u N ab_M_X10_cubeAt 0 lv [] m (Φ (d_X10_cubeAt x0 x1 m)) := by
  refine dc_pv.mono (dc_ok (C := C_X10_cubeAt) (S := S_X10_cubeAt) CO_X10_cubeAt 400 0 [(0, .ref x0), (1, .int x1)] lv [] m (dc_sub_cons f0 (dc_sub_cons f1 (dc_sub_nil))) ?_) (Nat.le_succ N)
  unfold d_X10_cubeAt
  refine dg_s (pc' := 1) [.long (0 : Int64)] rfl (fun _ => rfl) rfl ?_
  refine dg_L (pc' := 2) [(2, .long (0 : Int64)), (0, .ref x0), (1, .int x1)] [] rfl (fun _ => rfl) rfl ?_
  refine dg_s (pc' := 3) [.ref x0] rfl (fun _ => rfl) rfl ?_
  refine dg_s (pc' := 6) [.int (m.1 x0 57)] rfl (fun _ => rfl) rfl ?_
  refine dg_L (pc' := 8) [(4, .int (m.1 x0 57)), (2, .long (0 : Int64)), (0, .ref x0), (1, .int x1)] [] rfl (fun _ => rfl) rfl ?_
  refine dg_s (pc' := 9) [.ref x0] rfl (fun _ => rfl) rfl ?_
  refine dg_s (pc' := 12) [.int (m.1 x0 58)] rfl (fun _ => rfl) rfl ?_
  refine dg_L (pc' := 14) [(5, .int (m.1 x0 58)), (4, .int (m.1 x0 57)), (2, .long (0 : Int64)), (0, .ref x0), (1, .int x1)] [] rfl (fun _ => rfl) rfl ?_
  refine dg_s (pc' := 15) [.int (0 : Int32)] rfl (fun _ => rfl) rfl ?_
  refine dg_L (pc' := 17) [(6, .int (0 : Int32)), (5, .int (m.1 x0 58)), (4, .int (m.1 x0 57)), (2, .long (0 : Int64)), (0, .ref x0), (1, .int x1)] [] rfl (fun _ => rfl) rfl ?_
  refine dg_s (pc' := 18) [.int (0 : Int32)] rfl (fun _ => rfl) rfl ?_
  refine dw_L (pc' := 20) [(7, .int (0 : Int32)), (6, .int (0 : Int32)), (5, .int (m.1 x0 58)), (4, .int (m.1 x0 57)), (2, .long (0 : Int64)), (0, .ref x0), (1, .int x1)] [] rfl (fun _ => rfl) ?_
  exact dw_j rfl (fun lv1 hv => k_X10_cubeAt_l20 (Φ := (fun t => Φ t)) x0 x1 (fun _a _b => kR _a _b) N  (0 : Int64) (m.1 x0 57) (m.1 x0 58) (0 : Int32) (0 : Int32) m lv1 (hv.1 _ rfl) (hv.2.1 _ rfl) (hv.2.2.1 _ rfl) (hv.2.2.2.1 _ rfl) (hv.2.2.2.2.1 _ rfl) (hv.2.2.2.2.2.1 _ rfl) (hv.2.2.2.2.2.2.1 _ rfl))
noncomputable def H_X10_cubeAt : dc_H := fun As m k => match As with
  | [.ref x0, .int x1] => (d_X10_cubeAt x0 x1 m).bind (fun q => k (some (.int q.1)) q.2)
  | _ => dc_kz
theorem H_X10_cubeAt_ok {u : Nat} : dc_cok u 198 H_X10_cubeAt := fun M' hG N As m k P hz hP => by
  obtain rfl : ab_M_X10_cubeAt = M' := Option.some.inj hG
  unfold H_X10_cubeAt at hP
  split at hP
  · rename_i x0 x1
    exact dc_pv.imp (k_X10_cubeAt (Φ := fun (t : Option (Int32 × dc_M)) r m' => P (t.bind (fun q => k (some (.int q.1)) q.2)) → P (k r m')) x0 x1 m (fun _ _ h => h) rfl rfl) (fun r m' h => h hP)
  · exact absurd hP hz
