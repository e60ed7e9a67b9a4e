/-! ===== methods as functions (written by a program) ===== -/
noncomputable def C_X1_gatherPrimes : List (Nat × dc_H) := [(8, H_X1_isPrime), (9, H_X1_weighLevels), (99, H_X8_lettersOf), (98, H_X8_levelsIn)]
theorem CO_X1_gatherPrimes {u : Nat} : dc_CO u C_X1_gatherPrimes := dc_CO_cons H_X1_isPrime_ok (dc_CO_cons H_X1_weighLevels_ok (dc_CO_cons H_X8_lettersOf_ok (dc_CO_cons H_X8_levelsIn_ok (dc_CO_nil))))
def S_X1_gatherPrimes : List (Nat × List Nat) := [(8, [0, 1, 3, 5, 6, 7]), (121, [0, 1])]
noncomputable def d_X1_gatherPrimes_b121 (x0 : Nat) (x1 : Int64) (m : dc_M) : Option dc_M :=
  ((d_X1_weighLevels x0 x1 m).bind (fun q1 => some (q1)))
set_option maxHeartbeats 8000000 in
theorem k_X1_gatherPrimes_b121 {u : Nat} {N : Nat} {Φ : (Option dc_M) → Option Value → dc_M → Prop} (x0 : Nat) (x1 : Int64) (m : dc_M) (kR : ∀  (m : dc_M), Φ (some (m)) (none) m)  {lv : ab_L} (f0 : ab_lk lv 0 = some (.ref x0)) (f1 : ab_lk lv 1 = some (.long x1)) : dc_pv u N ab_M_X1_gatherPrimes 121 lv [] m (Φ (d_X1_gatherPrimes_b121 x0 x1 m)) := by
  refine dc_pv.mono (dc_ok (C := C_X1_gatherPrimes) (S := S_X1_gatherPrimes) CO_X1_gatherPrimes 400 121 [(0, .ref x0), (1, .long x1)] lv [] m (dc_sub_cons f0 (dc_sub_cons f1 (dc_sub_nil))) ?_) (Nat.le_succ N)
  unfold d_X1_gatherPrimes_b121
  refine dg_s (pc' := 122) [.ref x0] rfl (fun _ => rfl) rfl ?_
  refine dg_s (pc' := 123) [.long x1, .ref x0] rfl (fun _ => rfl) rfl ?_
  refine dw_b (fun t => Φ t) (pc' := 126) (fun q1 => []) (fun q1 => q1) rfl (fun _ => rfl) (fun q1 => ?_)
  refine dw_g rfl ?_
  exact dw_r (some (.inl (none, q1))) rfl (fun _ => rfl) (kR _)
noncomputable def d_X1_gatherPrimes_l8b (x0 : Nat) (x1 : Int64) (x3 : Int64) (x5 : Int32) (x6 : Int32) (x7 : Int32) (m : dc_M) : Option ((Int32 × dc_M) ⊕ dc_M) :=
  (if (Int32.toInt x6) ≤ (Int32.toInt x7) then ((d_X1_gatherPrimes_b121 x0 x1 m).map (fun z => Sum.inr (z))) else (if 729 ≤ (Int32.toInt x7) then ((d_X1_gatherPrimes_b121 x0 x1 m).map (fun z => Sum.inr (z))) else ((d_X8_levelsIn x7 x5 m).bind (fun q1 => (if ¬ (Int32.toInt (lg_cmp (q1 &&& x3) (0 : Int64))) = 0 then some (Sum.inl ((x7 + (1 : Int32)), m)) else (if (Int32.toInt (lg_cmp (q1 &&& x1) (0 : Int64))) = 0 then some (Sum.inl ((x7 + (1 : Int32)), m)) else ((d_X1_isPrime x7 q1 x3 x5 m).bind (fun q2 => (if (Int32.toInt q2) = 0 then some (Sum.inl ((x7 + (1 : Int32)), m)) else ((d_X8_lettersOf x7 x5 (dc_wi m (x0 + 2) (Int32.toNatClampNeg (m.1 x0 1)) x7)).bind (fun q3 => some (Sum.inl ((x7 + (1 : Int32)), (dc_wi (dc_wl (dc_wi (dc_wi m (x0 + 2) (Int32.toNatClampNeg (m.1 x0 1)) x7) (x0 + 3) (Int32.toNatClampNeg ((dc_wi m (x0 + 2) (Int32.toNatClampNeg (m.1 x0 1)) x7).1 x0 1)) ((256 : Int32) + q3)) (x0 + 4) (Int32.toNatClampNeg ((dc_wi (dc_wi m (x0 + 2) (Int32.toNatClampNeg (m.1 x0 1)) x7) (x0 + 3) (Int32.toNatClampNeg ((dc_wi m (x0 + 2) (Int32.toNatClampNeg (m.1 x0 1)) x7).1 x0 1)) ((256 : Int32) + q3)).1 x0 1)) q1) x0 1 (((dc_wl (dc_wi (dc_wi m (x0 + 2) (Int32.toNatClampNeg (m.1 x0 1)) x7) (x0 + 3) (Int32.toNatClampNeg ((dc_wi m (x0 + 2) (Int32.toNatClampNeg (m.1 x0 1)) x7).1 x0 1)) ((256 : Int32) + q3)) (x0 + 4) (Int32.toNatClampNeg ((dc_wi (dc_wi m (x0 + 2) (Int32.toNatClampNeg (m.1 x0 1)) x7) (x0 + 3) (Int32.toNatClampNeg ((dc_wi m (x0 + 2) (Int32.toNatClampNeg (m.1 x0 1)) x7).1 x0 1)) ((256 : Int32) + q3)).1 x0 1)) q1).1 x0 1) + (1 : Int32))))))))))))))))
noncomputable def d_X1_gatherPrimes_l8s (x0 : Nat) (x1 : Int64) (x3 : Int64) (x5 : Int32) (x6 : Int32) : (Int32 × dc_M) → Option ((Int32 × dc_M) ⊕ dc_M) := fun s => d_X1_gatherPrimes_l8b x0 x1 x3 x5 x6 s.1 s.2
noncomputable def d_X1_gatherPrimes_l8 (x0 : Nat) (x1 : Int64) (x3 : Int64) (x5 : Int32) (x6 : Int32) (x7 : Int32) (m : dc_M) : Option dc_M := dc_lp (d_X1_gatherPrimes_l8s x0 x1 x3 x5 x6) (x7, m)
set_option maxHeartbeats 8000000 in
theorem k_X1_gatherPrimes_l8 {u : Nat} {Φ : (Option dc_M) → Option Value → dc_M → Prop} (x0 : Nat) (x1 : Int64) (x3 : Int64) (x5 : Int32) (x6 : Int32) (kR : ∀  (m : dc_M), Φ (some (m)) (none) m) : ∀ (N : Nat), ∀ (x7 : Int32) (m : dc_M) (lv : ab_L), ab_lk lv 0 = some (.ref x0) → ab_lk lv 1 = some (.long x1) → ab_lk lv 3 = some (.long x3) → ab_lk lv 5 = some (.int x5) → ab_lk lv 6 = some (.int x6) → ab_lk lv 7 = some (.int x7) → dc_pv u N ab_M_X1_gatherPrimes 8 lv [] m (Φ (d_X1_gatherPrimes_l8 x0 x1 x3 x5 x6 x7 m)) := by
  intro N
  induction N with
  | zero => intros; exact dc_pv_zero
  | succ N ih =>
    intro x7 m lv f0 f1 f3 f5 f6 f7
    refine dc_ok (C := C_X1_gatherPrimes) (S := S_X1_gatherPrimes) CO_X1_gatherPrimes 400 8 [(0, .ref x0), (1, .long x1), (3, .long x3), (5, .int x5), (6, .int x6), (7, .int x7)] lv [] m (dc_sub_cons f0 (dc_sub_cons f1 (dc_sub_cons f3 (dc_sub_cons f5 (dc_sub_cons f6 (dc_sub_cons f7 (dc_sub_nil))))))) ?_
    unfold d_X1_gatherPrimes_l8
    rw [dc_lp_eq]
    show (fun t x => dc_lf u N ab_M_X1_gatherPrimes (Φ (Option.bind t (dc_bk (d_X1_gatherPrimes_l8s x0 x1 x3 x5 x6)))) x) (d_X1_gatherPrimes_l8b x0 x1 x3 x5 x6 x7 m) _
    dsimp only
    unfold d_X1_gatherPrimes_l8b
    refine dg_s (pc' := 10) [.int x7] rfl (fun _ => rfl) rfl ?_
    refine dg_s (pc' := 12) [.int x6, .int x7] rfl (fun _ => rfl) rfl ?_
    refine dw_if (fun t => Φ (Option.bind t (dc_bk (d_X1_gatherPrimes_l8s x0 x1 x3 x5 x6)))) ((Int32.toInt x6) ≤ (Int32.toInt x7)) [] 121 15 rfl (fun _ => rfl) (fun c0 => ?_) (fun c0 => ?_)
    · exact dw_j rfl (fun lv1 hv => k_X1_gatherPrimes_b121 (Φ := (fun t => Φ (Option.bind (t.map (fun z => Sum.inr (z))) (dc_bk (d_X1_gatherPrimes_l8s x0 x1 x3 x5 x6))))) x0 x1 m (fun _b => kR _b)  (hv.1 _ rfl) (hv.2.1 _ rfl))
    · refine dw_g rfl ?_
      refine dg_s (pc' := 17) [.int x7] rfl (fun _ => rfl) rfl ?_
      refine dg_s (pc' := 20) [.int (729 : Int32), .int x7] rfl (fun _ => rfl) rfl ?_
      refine dw_if (fun t => Φ (Option.bind t (dc_bk (d_X1_gatherPrimes_l8s x0 x1 x3 x5 x6)))) (729 ≤ (Int32.toInt x7)) [] 121 23 rfl (fun _ => rfl) (fun c1 => ?_) (fun c1 => ?_)
      · exact dw_j rfl (fun lv1 hv => k_X1_gatherPrimes_b121 (Φ := (fun t => Φ (Option.bind (t.map (fun z => Sum.inr (z))) (dc_bk (d_X1_gatherPrimes_l8s x0 x1 x3 x5 x6))))) x0 x1 m (fun _b => kR _b)  (hv.1 _ rfl) (hv.2.1 _ rfl))
      · refine dw_g rfl ?_
        refine dg_s (pc' := 25) [.int x7] rfl (fun _ => rfl) rfl ?_
        refine dg_s (pc' := 27) [.int x5, .int x7] rfl (fun _ => rfl) rfl ?_
        refine dw_b (fun t => Φ (Option.bind t (dc_bk (d_X1_gatherPrimes_l8s x0 x1 x3 x5 x6)))) (pc' := 30) (fun q1 => [.long q1]) (fun q1 => m) rfl (fun _ => rfl) (fun q1 => ?_)
        refine dw_g rfl ?_
        refine dg_L (pc' := 32) [(8, .long q1), (0, .ref x0), (1, .long x1), (3, .long x3), (5, .int x5), (6, .int x6), (7, .int x7)] [] rfl (fun _ => rfl) rfl ?_
        refine dg_s (pc' := 34) [.long q1] rfl (fun _ => rfl) rfl ?_
        refine dg_s (pc' := 35) [.long x3, .long q1] rfl (fun _ => rfl) rfl ?_
        refine dg_s (pc' := 36) [.long (q1 &&& x3)] rfl (fun _ => rfl) rfl ?_
        refine dg_s (pc' := 37) [.long (0 : Int64), .long (q1 &&& x3)] rfl (fun _ => rfl) rfl ?_
        refine dg_s (pc' := 38) [.int (lg_cmp (q1 &&& x3) (0 : Int64))] rfl (fun _ => rfl) rfl ?_
        refine dw_if (fun t => Φ (Option.bind t (dc_bk (d_X1_gatherPrimes_l8s x0 x1 x3 x5 x6)))) (¬ (Int32.toInt (lg_cmp (q1 &&& x3) (0 : Int64))) = 0) [] 115 41 rfl (fun _ => rfl) (fun c2 => ?_) (fun c2 => ?_)
        · refine dw_g rfl ?_
          refine dg_L (pc' := 118) [(7, .int (x7 + (1 : Int32))), (8, .long q1), (0, .ref x0), (1, .long x1), (3, .long x3), (5, .int x5), (6, .int x6)] [] rfl (fun _ => rfl) rfl ?_
          refine dw_s (pc' := 8) [] rfl (fun _ => rfl) ?_
          exact dw_j rfl (fun lv1 hv => ih (x7 + (1 : Int32)) m lv1 (hv.1 _ rfl) (hv.2.1 _ rfl) (hv.2.2.1 _ rfl) (hv.2.2.2.1 _ rfl) (hv.2.2.2.2.1 _ rfl) (hv.2.2.2.2.2.1 _ rfl))
        · refine dw_g rfl ?_
          refine dg_s (pc' := 43) [.long q1] rfl (fun _ => rfl) rfl ?_
          refine dg_s (pc' := 44) [.long x1, .long q1] rfl (fun _ => rfl) rfl ?_
          refine dg_s (pc' := 45) [.long (q1 &&& x1)] rfl (fun _ => rfl) rfl ?_
          refine dg_s (pc' := 46) [.long (0 : Int64), .long (q1 &&& x1)] rfl (fun _ => rfl) rfl ?_
          refine dg_s (pc' := 47) [.int (lg_cmp (q1 &&& x1) (0 : Int64))] rfl (fun _ => rfl) rfl ?_
          refine dw_if (fun t => Φ (Option.bind t (dc_bk (d_X1_gatherPrimes_l8s x0 x1 x3 x5 x6)))) ((Int32.toInt (lg_cmp (q1 &&& x1) (0 : Int64))) = 0) [] 115 50 rfl (fun _ => rfl) (fun c3 => ?_) (fun c3 => ?_)
          · refine dw_g rfl ?_
            refine dg_L (pc' := 118) [(7, .int (x7 + (1 : Int32))), (8, .long q1), (0, .ref x0), (1, .long x1), (3, .long x3), (5, .int x5), (6, .int x6)] [] rfl (fun _ => rfl) rfl ?_
            refine dw_s (pc' := 8) [] rfl (fun _ => rfl) ?_
            exact dw_j rfl (fun lv1 hv => ih (x7 + (1 : Int32)) m lv1 (hv.1 _ rfl) (hv.2.1 _ rfl) (hv.2.2.1 _ rfl) (hv.2.2.2.1 _ rfl) (hv.2.2.2.2.1 _ rfl) (hv.2.2.2.2.2.1 _ rfl))
          · refine dw_g rfl ?_
            refine dg_s (pc' := 52) [.int x7] rfl (fun _ => rfl) rfl ?_
            refine dg_s (pc' := 54) [.long q1, .int x7] rfl (fun _ => rfl) rfl ?_
            refine dg_s (pc' := 55) [.long x3, .long q1, .int x7] rfl (fun _ => rfl) rfl ?_
            refine dg_s (pc' := 57) [.int x5, .long x3, .long q1, .int x7] rfl (fun _ => rfl) rfl ?_
            refine dw_b (fun t => Φ (Option.bind t (dc_bk (d_X1_gatherPrimes_l8s x0 x1 x3 x5 x6)))) (pc' := 60) (fun q2 => [.int q2]) (fun q2 => m) rfl (fun _ => rfl) (fun q2 => ?_)
            refine dw_g rfl ?_
            refine dw_if (fun t => Φ (Option.bind t (dc_bk (d_X1_gatherPrimes_l8s x0 x1 x3 x5 x6)))) ((Int32.toInt q2) = 0) [] 115 63 rfl (fun _ => rfl) (fun c4 => ?_) (fun c4 => ?_)
            · refine dw_g rfl ?_
              refine dg_L (pc' := 118) [(7, .int (x7 + (1 : Int32))), (8, .long q1), (0, .ref x0), (1, .long x1), (3, .long x3), (5, .int x5), (6, .int x6)] [] rfl (fun _ => rfl) rfl ?_
              refine dw_s (pc' := 8) [] rfl (fun _ => rfl) ?_
              exact dw_j rfl (fun lv1 hv => ih (x7 + (1 : Int32)) m lv1 (hv.1 _ rfl) (hv.2.1 _ rfl) (hv.2.2.1 _ rfl) (hv.2.2.2.1 _ rfl) (hv.2.2.2.2.1 _ rfl) (hv.2.2.2.2.2.1 _ rfl))
            · refine dw_g rfl ?_
              refine dg_s (pc' := 64) [.ref x0] rfl (fun _ => rfl) rfl ?_
              refine dg_s (pc' := 67) [.ref (x0 + 2)] rfl (fun _ => rfl) rfl ?_
              refine dg_s (pc' := 68) [.ref x0, .ref (x0 + 2)] rfl (fun _ => rfl) rfl ?_
              refine dg_s (pc' := 71) [.int (m.1 x0 1), .ref (x0 + 2)] rfl (fun _ => rfl) rfl ?_
              refine dg_s (pc' := 73) [.int x7, .int (m.1 x0 1), .ref (x0 + 2)] rfl (fun _ => rfl) rfl ?_
              refine dg_m (pc' := 74) (dc_wi m (x0 + 2) (Int32.toNatClampNeg (m.1 x0 1)) x7) [] rfl (fun _ => rfl) rfl ?_
              refine dg_s (pc' := 75) [.ref x0] rfl (fun _ => rfl) rfl ?_
              refine dg_s (pc' := 78) [.ref (x0 + 3)] rfl (fun _ => rfl) rfl ?_
              refine dg_s (pc' := 79) [.ref x0, .ref (x0 + 3)] rfl (fun _ => rfl) rfl ?_
              refine dg_s (pc' := 82) [.int ((dc_wi m (x0 + 2) (Int32.toNatClampNeg (m.1 x0 1)) x7).1 x0 1), .ref (x0 + 3)] rfl (fun _ => rfl) rfl ?_
              refine dg_s (pc' := 85) [.int (256 : Int32), .int ((dc_wi m (x0 + 2) (Int32.toNatClampNeg (m.1 x0 1)) x7).1 x0 1), .ref (x0 + 3)] rfl (fun _ => rfl) rfl ?_
              refine dg_s (pc' := 87) [.int x7, .int (256 : Int32), .int ((dc_wi m (x0 + 2) (Int32.toNatClampNeg (m.1 x0 1)) x7).1 x0 1), .ref (x0 + 3)] rfl (fun _ => rfl) rfl ?_
              refine dg_s (pc' := 89) [.int x5, .int x7, .int (256 : Int32), .int ((dc_wi m (x0 + 2) (Int32.toNatClampNeg (m.1 x0 1)) x7).1 x0 1), .ref (x0 + 3)] rfl (fun _ => rfl) rfl ?_
              refine dw_b (fun t => Φ (Option.bind t (dc_bk (d_X1_gatherPrimes_l8s x0 x1 x3 x5 x6)))) (pc' := 92) (fun q3 => [.int q3, .int (256 : Int32), .int ((dc_wi m (x0 + 2) (Int32.toNatClampNeg (m.1 x0 1)) x7).1 x0 1), .ref (x0 + 3)]) (fun q3 => (dc_wi m (x0 + 2) (Int32.toNatClampNeg (m.1 x0 1)) x7)) rfl (fun _ => rfl) (fun q3 => ?_)
              refine dw_g rfl ?_
              refine dg_s (pc' := 93) [.int ((256 : Int32) + q3), .int ((dc_wi m (x0 + 2) (Int32.toNatClampNeg (m.1 x0 1)) x7).1 x0 1), .ref (x0 + 3)] rfl (fun _ => rfl) rfl ?_
              refine dg_m (pc' := 94) (dc_wi (dc_wi m (x0 + 2) (Int32.toNatClampNeg (m.1 x0 1)) x7) (x0 + 3) (Int32.toNatClampNeg ((dc_wi m (x0 + 2) (Int32.toNatClampNeg (m.1 x0 1)) x7).1 x0 1)) ((256 : Int32) + q3)) [] rfl (fun _ => rfl) rfl ?_
              refine dg_s (pc' := 95) [.ref x0] rfl (fun _ => rfl) rfl ?_
              refine dg_s (pc' := 98) [.ref (x0 + 4)] rfl (fun _ => rfl) rfl ?_
              refine dg_s (pc' := 99) [.ref x0, .ref (x0 + 4)] rfl (fun _ => rfl) rfl ?_
              refine dg_s (pc' := 102) [.int ((dc_wi (dc_wi m (x0 + 2) (Int32.toNatClampNeg (m.1 x0 1)) x7) (x0 + 3) (Int32.toNatClampNeg ((dc_wi m (x0 + 2) (Int32.toNatClampNeg (m.1 x0 1)) x7).1 x0 1)) ((256 : Int32) + q3)).1 x0 1), .ref (x0 + 4)] rfl (fun _ => rfl) rfl ?_
              refine dg_s (pc' := 104) [.long q1, .int ((dc_wi (dc_wi m (x0 + 2) (Int32.toNatClampNeg (m.1 x0 1)) x7) (x0 + 3) (Int32.toNatClampNeg ((dc_wi m (x0 + 2) (Int32.toNatClampNeg (m.1 x0 1)) x7).1 x0 1)) ((256 : Int32) + q3)).1 x0 1), .ref (x0 + 4)] rfl (fun _ => rfl) rfl ?_
              refine dg_m (pc' := 105) (dc_wl (dc_wi (dc_wi m (x0 + 2) (Int32.toNatClampNeg (m.1 x0 1)) x7) (x0 + 3) (Int32.toNatClampNeg ((dc_wi m (x0 + 2) (Int32.toNatClampNeg (m.1 x0 1)) x7).1 x0 1)) ((256 : Int32) + q3)) (x0 + 4) (Int32.toNatClampNeg ((dc_wi (dc_wi m (x0 + 2) (Int32.toNatClampNeg (m.1 x0 1)) x7) (x0 + 3) (Int32.toNatClampNeg ((dc_wi m (x0 + 2) (Int32.toNatClampNeg (m.1 x0 1)) x7).1 x0 1)) ((256 : Int32) + q3)).1 x0 1)) q1) [] rfl (fun _ => rfl) rfl ?_
              refine dg_s (pc' := 106) [.ref x0] rfl (fun _ => rfl) rfl ?_
              refine dg_s (pc' := 107) [.ref x0, .ref x0] rfl (fun _ => rfl) rfl ?_
              refine dg_s (pc' := 110) [.int ((dc_wl (dc_wi (dc_wi m (x0 + 2) (Int32.toNatClampNeg (m.1 x0 1)) x7) (x0 + 3) (Int32.toNatClampNeg ((dc_wi m (x0 + 2) (Int32.toNatClampNeg (m.1 x0 1)) x7).1 x0 1)) ((256 : Int32) + q3)) (x0 + 4) (Int32.toNatClampNeg ((dc_wi (dc_wi m (x0 + 2) (Int32.toNatClampNeg (m.1 x0 1)) x7) (x0 + 3) (Int32.toNatClampNeg ((dc_wi m (x0 + 2) (Int32.toNatClampNeg (m.1 x0 1)) x7).1 x0 1)) ((256 : Int32) + q3)).1 x0 1)) q1).1 x0 1), .ref x0] rfl (fun _ => rfl) rfl ?_
              refine dg_s (pc' := 111) [.int (1 : Int32), .int ((dc_wl (dc_wi (dc_wi m (x0 + 2) (Int32.toNatClampNeg (m.1 x0 1)) x7) (x0 + 3) (Int32.toNatClampNeg ((dc_wi m (x0 + 2) (Int32.toNatClampNeg (m.1 x0 1)) x7).1 x0 1)) ((256 : Int32) + q3)) (x0 + 4) (Int32.toNatClampNeg ((dc_wi (dc_wi m (x0 + 2) (Int32.toNatClampNeg (m.1 x0 1)) x7) (x0 + 3) (Int32.toNatClampNeg ((dc_wi m (x0 + 2) (Int32.toNatClampNeg (m.1 x0 1)) x7).1 x0 1)) ((256 : Int32) + q3)).1 x0 1)) q1).1 x0 1), .ref x0] rfl (fun _ => rfl) rfl ?_
              refine dg_s (pc' := 112) [.int (((dc_wl (dc_wi (dc_wi m (x0 + 2) (Int32.toNatClampNeg (m.1 x0 1)) x7) (x0 + 3) (Int32.toNatClampNeg ((dc_wi m (x0 + 2) (Int32.toNatClampNeg (m.1 x0 1)) x7).1 x0 1)) ((256 : Int32) + q3)) (x0 + 4) (Int32.toNatClampNeg ((dc_wi (dc_wi m (x0 + 2) (Int32.toNatClampNeg (m.1 x0 1)) x7) (x0 + 3) (Int32.toNatClampNeg ((dc_wi m (x0 + 2) (Int32.toNatClampNeg (m.1 x0 1)) x7).1 x0 1)) ((256 : Int32) + q3)).1 x0 1)) q1).1 x0 1) + (1 : Int32)), .ref x0] rfl (fun _ => rfl) rfl ?_
              refine dg_m (pc' := 115) (dc_wi (dc_wl (dc_wi (dc_wi m (x0 + 2) (Int32.toNatClampNeg (m.1 x0 1)) x7) (x0 + 3) (Int32.toNatClampNeg ((dc_wi m (x0 + 2) (Int32.toNatClampNeg (m.1 x0 1)) x7).1 x0 1)) ((256 : Int32) + q3)) (x0 + 4) (Int32.toNatClampNeg ((dc_wi (dc_wi m (x0 + 2) (Int32.toNatClampNeg (m.1 x0 1)) x7) (x0 + 3) (Int32.toNatClampNeg ((dc_wi m (x0 + 2) (Int32.toNatClampNeg (m.1 x0 1)) x7).1 x0 1)) ((256 : Int32) + q3)).1 x0 1)) q1) x0 1 (((dc_wl (dc_wi (dc_wi m (x0 + 2) (Int32.toNatClampNeg (m.1 x0 1)) x7) (x0 + 3) (Int32.toNatClampNeg ((dc_wi m (x0 + 2) (Int32.toNatClampNeg (m.1 x0 1)) x7).1 x0 1)) ((256 : Int32) + q3)) (x0 + 4) (Int32.toNatClampNeg ((dc_wi (dc_wi m (x0 + 2) (Int32.toNatClampNeg (m.1 x0 1)) x7) (x0 + 3) (Int32.toNatClampNeg ((dc_wi m (x0 + 2) (Int32.toNatClampNeg (m.1 x0 1)) x7).1 x0 1)) ((256 : Int32) + q3)).1 x0 1)) q1).1 x0 1) + (1 : Int32))) [] rfl (fun _ => rfl) rfl ?_
              refine dg_L (pc' := 118) [(7, .int (x7 + (1 : Int32))), (8, .long q1), (0, .ref x0), (1, .long x1), (3, .long x3), (5, .int x5), (6, .int x6)] [] rfl (fun _ => rfl) rfl ?_
              refine dw_s (pc' := 8) [] rfl (fun _ => rfl) ?_
              exact dw_j rfl (fun lv1 hv => ih (x7 + (1 : Int32)) (dc_wi (dc_wl (dc_wi (dc_wi m (x0 + 2) (Int32.toNatClampNeg (m.1 x0 1)) x7) (x0 + 3) (Int32.toNatClampNeg ((dc_wi m (x0 + 2) (Int32.toNatClampNeg (m.1 x0 1)) x7).1 x0 1)) ((256 : Int32) + q3)) (x0 + 4) (Int32.toNatClampNeg ((dc_wi (dc_wi m (x0 + 2) (Int32.toNatClampNeg (m.1 x0 1)) x7) (x0 + 3) (Int32.toNatClampNeg ((dc_wi m (x0 + 2) (Int32.toNatClampNeg (m.1 x0 1)) x7).1 x0 1)) ((256 : Int32) + q3)).1 x0 1)) q1) x0 1 (((dc_wl (dc_wi (dc_wi m (x0 + 2) (Int32.toNatClampNeg (m.1 x0 1)) x7) (x0 + 3) (Int32.toNatClampNeg ((dc_wi m (x0 + 2) (Int32.toNatClampNeg (m.1 x0 1)) x7).1 x0 1)) ((256 : Int32) + q3)) (x0 + 4) (Int32.toNatClampNeg ((dc_wi (dc_wi m (x0 + 2) (Int32.toNatClampNeg (m.1 x0 1)) x7) (x0 + 3) (Int32.toNatClampNeg ((dc_wi m (x0 + 2) (Int32.toNatClampNeg (m.1 x0 1)) x7).1 x0 1)) ((256 : Int32) + q3)).1 x0 1)) q1).1 x0 1) + (1 : Int32))) lv1 (hv.1 _ rfl) (hv.2.1 _ rfl) (hv.2.2.1 _ rfl) (hv.2.2.2.1 _ rfl) (hv.2.2.2.2.1 _ rfl) (hv.2.2.2.2.2.1 _ rfl))
noncomputable def d_X1_gatherPrimes (x0 : Nat) (x1 : Int64) (x3 : Int64) (x5 : Int32) (x6 : Int32) (m : dc_M) : Option dc_M :=
  (d_X1_gatherPrimes_l8 x0 x1 x3 x5 x6 (0 : Int32) (dc_wi m x0 1 (0 : Int32)))
set_option maxHeartbeats 8000000 in
theorem k_X1_gatherPrimes {u : Nat} {N : Nat} {Φ : (Option dc_M) → Option Value → dc_M → Prop} (x0 : Nat) (x1 : Int64) (x3 : Int64) (x5 : Int32) (x6 : Int32) (m : dc_M) (kR : ∀  (m : dc_M), Φ (some (m)) (none) m)  {lv : ab_L} (f0 : ab_lk lv 0 = some (.ref x0)) (f1 : ab_lk lv 1 = some (.long x1)) (f3 : ab_lk lv 3 = some (.long x3)) (f5 : ab_lk lv 5 = some (.int x5)) (f6 : ab_lk lv 6 = some (.int x6)) : dc_pv u N ab_M_X1_gatherPrimes 0 lv [] m (Φ (d_X1_gatherPrimes x0 x1 x3 x5 x6 m)) := by
  refine dc_pv.mono (dc_ok (C := C_X1_gatherPrimes) (S := S_X1_gatherPrimes) CO_X1_gatherPrimes 400 0 [(0, .ref x0), (1, .long x1), (3, .long x3), (5, .int x5), (6, .int x6)] lv [] m (dc_sub_cons f0 (dc_sub_cons f1 (dc_sub_cons f3 (dc_sub_cons f5 (dc_sub_cons f6 (dc_sub_nil)))))) ?_) (Nat.le_succ N)
  unfold d_X1_gatherPrimes
  refine dg_s (pc' := 1) [.ref x0] rfl (fun _ => rfl) rfl ?_
  refine dg_s (pc' := 2) [.int (0 : Int32), .ref x0] rfl (fun _ => rfl) rfl ?_
  refine dg_m (pc' := 5) (dc_wi m x0 1 (0 : Int32)) [] rfl (fun _ => rfl) rfl ?_
  refine dg_s (pc' := 6) [.int (0 : Int32)] rfl (fun _ => rfl) rfl ?_
  refine dw_L (pc' := 8) [(7, .int (0 : Int32)), (0, .ref x0), (1, .long x1), (3, .long x3), (5, .int x5), (6, .int x6)] [] rfl (fun _ => rfl) ?_
  exact dw_j rfl (fun lv1 hv => k_X1_gatherPrimes_l8 (Φ := (fun t => Φ t)) x0 x1 x3 x5 x6 (fun _b => kR _b) N  (0 : Int32) (dc_wi m x0 1 (0 : Int32)) lv1 (hv.1 _ rfl) (hv.2.1 _ rfl) (hv.2.2.1 _ rfl) (hv.2.2.2.1 _ rfl) (hv.2.2.2.2.1 _ rfl) (hv.2.2.2.2.2.1 _ rfl))
noncomputable def H_X1_gatherPrimes : dc_H := fun As m k => match As with
  | [.ref x0, .long x1, .long x3, .int x5, .int x6] => (d_X1_gatherPrimes x0 x1 x3 x5 x6 m).bind (fun q => k (none) q)
  | _ => dc_kz
theorem H_X1_gatherPrimes_ok {u : Nat} : dc_cok u 7 H_X1_gatherPrimes := fun M' hG N As m k P hz hP => by
  obtain rfl : ab_M_X1_gatherPrimes = M' := Option.some.inj hG
  unfold H_X1_gatherPrimes at hP
  split at hP
  · rename_i x0 x1 x3 x5 x6
    exact dc_pv.imp (k_X1_gatherPrimes (Φ := fun (t : Option dc_M) r m' => P (t.bind (fun q => k (none) q)) → P (k r m')) x0 x1 x3 x5 x6 m (fun _ h => h) rfl rfl rfl rfl rfl) (fun r m' h => h hP)
  · exact absurd hP hz
def C_X1_weightAtLeast : List (Nat × dc_H) := []
theorem CO_X1_weightAtLeast {u : Nat} : dc_CO u C_X1_weightAtLeast := dc_CO_nil
def S_X1_weightAtLeast : List (Nat × List Nat) := [(8, [0, 3, 5, 6])]
noncomputable def d_X1_weightAtLeast_l8b (x0 : Nat) (x3 : Int64) (x5 : Int32) (x6 : Int32) (m : dc_M) : Option ((Int64 × Int32 × Int32) ⊕ Int32) :=
  (if (Int32.toInt (m.1 x0 9)) ≤ (Int32.toInt x6) then some (Sum.inr (x5)) else (if (Int32.toInt (lg_cmp x3 (0 : Int64))) = 0 then some (Sum.inr (x5)) else (if (Int32.toInt (lg_cmp ((((x3).toUInt64 >>> ((Int32.toInt64 (m.1 (x0 + 8) (Int32.toNatClampNeg x6))).toUInt64 &&& Int64.toUInt64 63)).toInt64) &&& (1 : Int64)) (0 : Int64))) = 0 then some (Sum.inl (x3, x5, (x6 + (1 : Int32)))) else some (Sum.inl ((x3 &&& ((m.2.1 (x0 + 7) (Int32.toNatClampNeg (m.1 (x0 + 8) (Int32.toNatClampNeg x6)))) ^^^ (-1 : Int64))), (x5 + (m.1 (x0 + 6) (Int32.toNatClampNeg (m.1 (x0 + 8) (Int32.toNatClampNeg x6))))), (x6 + (1 : Int32)))))))
noncomputable def d_X1_weightAtLeast_l8s (x0 : Nat) (m : dc_M) : (Int64 × Int32 × Int32) → Option ((Int64 × Int32 × Int32) ⊕ Int32) := fun s => d_X1_weightAtLeast_l8b x0 s.1 s.2.1 s.2.2 m
noncomputable def d_X1_weightAtLeast_l8 (x0 : Nat) (x3 : Int64) (x5 : Int32) (x6 : Int32) (m : dc_M) : Option Int32 := dc_lp (d_X1_weightAtLeast_l8s x0 m) (x3, x5, x6)
set_option maxHeartbeats 8000000 in
theorem k_X1_weightAtLeast_l8 {u : Nat} {Φ : (Option Int32) → Option Value → dc_M → Prop} (x0 : Nat) (m : dc_M) (kR : ∀ (v : Int32), Φ (some (v)) (some (.int v)) m) : ∀ (N : Nat), ∀ (x3 : Int64) (x5 : Int32) (x6 : Int32) (lv : ab_L), ab_lk lv 0 = some (.ref x0) → ab_lk lv 3 = some (.long x3) → ab_lk lv 5 = some (.int x5) → ab_lk lv 6 = some (.int x6) → dc_pv u N ab_M_X1_weightAtLeast 8 lv [] m (Φ (d_X1_weightAtLeast_l8 x0 x3 x5 x6 m)) := by
  intro N
  induction N with
  | zero => intros; exact dc_pv_zero
  | succ N ih =>
    intro x3 x5 x6 lv f0 f3 f5 f6
    refine dc_ok (C := C_X1_weightAtLeast) (S := S_X1_weightAtLeast) CO_X1_weightAtLeast 400 8 [(0, .ref x0), (3, .long x3), (5, .int x5), (6, .int x6)] lv [] m (dc_sub_cons f0 (dc_sub_cons f3 (dc_sub_cons f5 (dc_sub_cons f6 (dc_sub_nil))))) ?_
    unfold d_X1_weightAtLeast_l8
    rw [dc_lp_eq]
    show (fun t x => dc_lf u N ab_M_X1_weightAtLeast (Φ (Option.bind t (dc_bk (d_X1_weightAtLeast_l8s x0 m)))) x) (d_X1_weightAtLeast_l8b x0 x3 x5 x6 m) _
    dsimp only
    unfold d_X1_weightAtLeast_l8b
    refine dg_s (pc' := 10) [.int x6] rfl (fun _ => rfl) rfl ?_
    refine dg_s (pc' := 11) [.ref x0, .int x6] rfl (fun _ => rfl) rfl ?_
    refine dg_s (pc' := 14) [.int (m.1 x0 9), .int x6] rfl (fun _ => rfl) rfl ?_
    refine dw_if (fun t => Φ (Option.bind t (dc_bk (d_X1_weightAtLeast_l8s x0 m)))) ((Int32.toInt (m.1 x0 9)) ≤ (Int32.toInt x6)) [] 75 17 rfl (fun _ => rfl) (fun c0 => ?_) (fun c0 => ?_)
    · refine dw_g rfl ?_
      refine dg_s (pc' := 77) [.int x5] rfl (fun _ => rfl) rfl ?_
      exact dw_r (some (.inl (some (.int x5), m))) rfl (fun _ => rfl) (kR _)
    · refine dw_g rfl ?_
      refine dg_s (pc' := 18) [.long x3] rfl (fun _ => rfl) rfl ?_
      refine dg_s (pc' := 19) [.long (0 : Int64), .long x3] rfl (fun _ => rfl) rfl ?_
      refine dg_s (pc' := 20) [.int (lg_cmp x3 (0 : Int64))] rfl (fun _ => rfl) rfl ?_
      refine dw_if (fun t => Φ (Option.bind t (dc_bk (d_X1_weightAtLeast_l8s x0 m)))) ((Int32.toInt (lg_cmp x3 (0 : Int64))) = 0) [] 75 23 rfl (fun _ => rfl) (fun c1 => ?_) (fun c1 => ?_)
      · refine dw_g rfl ?_
        refine dg_s (pc' := 77) [.int x5] rfl (fun _ => rfl) rfl ?_
        exact dw_r (some (.inl (some (.int x5), m))) rfl (fun _ => rfl) (kR _)
      · refine dw_g rfl ?_
        refine dg_s (pc' := 24) [.ref x0] rfl (fun _ => rfl) rfl ?_
        refine dg_s (pc' := 27) [.ref (x0 + 8)] rfl (fun _ => rfl) rfl ?_
        refine dg_s (pc' := 29) [.int x6, .ref (x0 + 8)] rfl (fun _ => rfl) rfl ?_
        refine dg_s (pc' := 30) [.int (m.1 (x0 + 8) (Int32.toNatClampNeg x6))] rfl (fun _ => rfl) rfl ?_
        refine dg_L (pc' := 32) [(7, .int (m.1 (x0 + 8) (Int32.toNatClampNeg x6))), (0, .ref x0), (3, .long x3), (5, .int x5), (6, .int x6)] [] rfl (fun _ => rfl) rfl ?_
        refine dg_s (pc' := 33) [.long x3] rfl (fun _ => rfl) rfl ?_
        refine dg_s (pc' := 35) [.int (m.1 (x0 + 8) (Int32.toNatClampNeg x6)), .long x3] rfl (fun _ => rfl) rfl ?_
        refine dg_s (pc' := 36) [.long (((x3).toUInt64 >>> ((Int32.toInt64 (m.1 (x0 + 8) (Int32.toNatClampNeg x6))).toUInt64 &&& Int64.toUInt64 63)).toInt64)] rfl (fun _ => rfl) rfl ?_
        refine dg_s (pc' := 37) [.long (1 : Int64), .long (((x3).toUInt64 >>> ((Int32.toInt64 (m.1 (x0 + 8) (Int32.toNatClampNeg x6))).toUInt64 &&& Int64.toUInt64 63)).toInt64)] rfl (fun _ => rfl) rfl ?_
        refine dg_s (pc' := 38) [.long ((((x3).toUInt64 >>> ((Int32.toInt64 (m.1 (x0 + 8) (Int32.toNatClampNeg x6))).toUInt64 &&& Int64.toUInt64 63)).toInt64) &&& (1 : Int64))] rfl (fun _ => rfl) rfl ?_
        refine dg_s (pc' := 39) [.long (0 : Int64), .long ((((x3).toUInt64 >>> ((Int32.toInt64 (m.1 (x0 + 8) (Int32.toNatClampNeg x6))).toUInt64 &&& Int64.toUInt64 63)).toInt64) &&& (1 : Int64))] rfl (fun _ => rfl) rfl ?_
        refine dg_s (pc' := 40) [.int (lg_cmp ((((x3).toUInt64 >>> ((Int32.toInt64 (m.1 (x0 + 8) (Int32.toNatClampNeg x6))).toUInt64 &&& Int64.toUInt64 63)).toInt64) &&& (1 : Int64)) (0 : Int64))] rfl (fun _ => rfl) rfl ?_
        refine dw_if (fun t => Φ (Option.bind t (dc_bk (d_X1_weightAtLeast_l8s x0 m)))) ((Int32.toInt (lg_cmp ((((x3).toUInt64 >>> ((Int32.toInt64 (m.1 (x0 + 8) (Int32.toNatClampNeg x6))).toUInt64 &&& Int64.toUInt64 63)).toInt64) &&& (1 : Int64)) (0 : Int64))) = 0) [] 69 43 rfl (fun _ => rfl) (fun c2 => ?_) (fun c2 => ?_)
        · refine dw_g rfl ?_
          refine dg_L (pc' := 72) [(6, .int (x6 + (1 : Int32))), (7, .int (m.1 (x0 + 8) (Int32.toNatClampNeg x6))), (0, .ref x0), (3, .long x3), (5, .int x5)] [] rfl (fun _ => rfl) rfl ?_
          refine dw_s (pc' := 8) [] rfl (fun _ => rfl) ?_
          exact dw_j rfl (fun lv1 hv => ih x3 x5 (x6 + (1 : Int32)) lv1 (hv.1 _ rfl) (hv.2.1 _ rfl) (hv.2.2.1 _ rfl) (hv.2.2.2.1 _ rfl))
        · refine dw_g rfl ?_
          refine dg_s (pc' := 45) [.int x5] rfl (fun _ => rfl) rfl ?_
          refine dg_s (pc' := 46) [.ref x0, .int x5] rfl (fun _ => rfl) rfl ?_
          refine dg_s (pc' := 49) [.ref (x0 + 6), .int x5] rfl (fun _ => rfl) rfl ?_
          refine dg_s (pc' := 51) [.int (m.1 (x0 + 8) (Int32.toNatClampNeg x6)), .ref (x0 + 6), .int x5] rfl (fun _ => rfl) rfl ?_
          refine dg_s (pc' := 52) [.int (m.1 (x0 + 6) (Int32.toNatClampNeg (m.1 (x0 + 8) (Int32.toNatClampNeg x6)))), .int x5] rfl (fun _ => rfl) rfl ?_
          refine dg_s (pc' := 53) [.int (x5 + (m.1 (x0 + 6) (Int32.toNatClampNeg (m.1 (x0 + 8) (Int32.toNatClampNeg x6)))))] rfl (fun _ => rfl) rfl ?_
          refine dg_L (pc' := 55) [(5, .int (x5 + (m.1 (x0 + 6) (Int32.toNatClampNeg (m.1 (x0 + 8) (Int32.toNatClampNeg x6)))))), (7, .int (m.1 (x0 + 8) (Int32.toNatClampNeg x6))), (0, .ref x0), (3, .long x3), (6, .int x6)] [] rfl (fun _ => rfl) rfl ?_
          refine dg_s (pc' := 56) [.long x3] rfl (fun _ => rfl) rfl ?_
          refine dg_s (pc' := 57) [.ref x0, .long x3] rfl (fun _ => rfl) rfl ?_
          refine dg_s (pc' := 60) [.ref (x0 + 7), .long x3] rfl (fun _ => rfl) rfl ?_
          refine dg_s (pc' := 62) [.int (m.1 (x0 + 8) (Int32.toNatClampNeg x6)), .ref (x0 + 7), .long x3] rfl (fun _ => rfl) rfl ?_
          refine dg_s (pc' := 63) [.long (m.2.1 (x0 + 7) (Int32.toNatClampNeg (m.1 (x0 + 8) (Int32.toNatClampNeg x6)))), .long x3] rfl (fun _ => rfl) rfl ?_
          refine dg_s (pc' := 66) [.long (-1 : Int64), .long (m.2.1 (x0 + 7) (Int32.toNatClampNeg (m.1 (x0 + 8) (Int32.toNatClampNeg x6)))), .long x3] rfl (fun _ => rfl) rfl ?_
          refine dg_s (pc' := 67) [.long ((m.2.1 (x0 + 7) (Int32.toNatClampNeg (m.1 (x0 + 8) (Int32.toNatClampNeg x6)))) ^^^ (-1 : Int64)), .long x3] rfl (fun _ => rfl) rfl ?_
          refine dg_s (pc' := 68) [.long (x3 &&& ((m.2.1 (x0 + 7) (Int32.toNatClampNeg (m.1 (x0 + 8) (Int32.toNatClampNeg x6)))) ^^^ (-1 : Int64)))] rfl (fun _ => rfl) rfl ?_
          refine dg_L (pc' := 69) [(3, .long (x3 &&& ((m.2.1 (x0 + 7) (Int32.toNatClampNeg (m.1 (x0 + 8) (Int32.toNatClampNeg x6)))) ^^^ (-1 : Int64)))), (5, .int (x5 + (m.1 (x0 + 6) (Int32.toNatClampNeg (m.1 (x0 + 8) (Int32.toNatClampNeg x6)))))), (7, .int (m.1 (x0 + 8) (Int32.toNatClampNeg x6))), (0, .ref x0), (6, .int x6)] [] rfl (fun _ => rfl) rfl ?_
          refine dg_L (pc' := 72) [(6, .int (x6 + (1 : Int32))), (3, .long (x3 &&& ((m.2.1 (x0 + 7) (Int32.toNatClampNeg (m.1 (x0 + 8) (Int32.toNatClampNeg x6)))) ^^^ (-1 : Int64)))), (5, .int (x5 + (m.1 (x0 + 6) (Int32.toNatClampNeg (m.1 (x0 + 8) (Int32.toNatClampNeg x6)))))), (7, .int (m.1 (x0 + 8) (Int32.toNatClampNeg x6))), (0, .ref x0)] [] rfl (fun _ => rfl) rfl ?_
          refine dw_s (pc' := 8) [] rfl (fun _ => rfl) ?_
          exact dw_j rfl (fun lv1 hv => ih (x3 &&& ((m.2.1 (x0 + 7) (Int32.toNatClampNeg (m.1 (x0 + 8) (Int32.toNatClampNeg x6)))) ^^^ (-1 : Int64))) (x5 + (m.1 (x0 + 6) (Int32.toNatClampNeg (m.1 (x0 + 8) (Int32.toNatClampNeg x6))))) (x6 + (1 : Int32)) lv1 (hv.1 _ rfl) (hv.2.1 _ rfl) (hv.2.2.1 _ rfl) (hv.2.2.2.1 _ rfl))
noncomputable def d_X1_weightAtLeast (x0 : Nat) (x1 : Int64) (m : dc_M) : Option Int32 :=
  (d_X1_weightAtLeast_l8 x0 x1 (0 : Int32) (0 : Int32) m)
set_option maxHeartbeats 8000000 in
theorem k_X1_weightAtLeast {u : Nat} {N : Nat} {Φ : (Option Int32) → Option Value → dc_M → Prop} (x0 : Nat) (x1 : Int64) (m : dc_M) (kR : ∀ (v : Int32), Φ (some (v)) (some (.int v)) m)  {lv : ab_L} (f0 : ab_lk lv 0 = some (.ref x0)) (f1 : ab_lk lv 1 = some (.long x1)) : dc_pv u N ab_M_X1_weightAtLeast 0 lv [] m (Φ (d_X1_weightAtLeast x0 x1 m)) := by
  refine dc_pv.mono (dc_ok (C := C_X1_weightAtLeast) (S := S_X1_weightAtLeast) CO_X1_weightAtLeast 400 0 [(0, .ref x0), (1, .long x1)] lv [] m (dc_sub_cons f0 (dc_sub_cons f1 (dc_sub_nil))) ?_) (Nat.le_succ N)
  unfold d_X1_weightAtLeast
  refine dg_s (pc' := 1) [.long x1] rfl (fun _ => rfl) rfl ?_
  refine dg_L (pc' := 2) [(3, .long x1), (0, .ref x0), (1, .long x1)] [] rfl (fun _ => rfl) rfl ?_
  refine dg_s (pc' := 3) [.int (0 : Int32)] rfl (fun _ => rfl) rfl ?_
  refine dg_L (pc' := 5) [(5, .int (0 : Int32)), (3, .long x1), (0, .ref x0), (1, .long x1)] [] rfl (fun _ => rfl) rfl ?_
  refine dg_s (pc' := 6) [.int (0 : Int32)] rfl (fun _ => rfl) rfl ?_
  refine dw_L (pc' := 8) [(6, .int (0 : Int32)), (5, .int (0 : Int32)), (3, .long x1), (0, .ref x0), (1, .long x1)] [] rfl (fun _ => rfl) ?_
  exact dw_j rfl (fun lv1 hv => k_X1_weightAtLeast_l8 (Φ := (fun t => Φ t)) x0 m (fun _a  => kR _a) N  x1 (0 : Int32) (0 : Int32) lv1 (hv.1 _ rfl) (hv.2.1 _ rfl) (hv.2.2.1 _ rfl) (hv.2.2.2.1 _ rfl))
noncomputable def H_X1_weightAtLeast : dc_H := fun As m k => match As with
  | [.ref x0, .long x1] => (d_X1_weightAtLeast x0 x1 m).bind (fun q => k (some (.int q)) m)
  | _ => dc_kz
theorem H_X1_weightAtLeast_ok {u : Nat} : dc_cok u 14 H_X1_weightAtLeast := fun M' hG N As m k P hz hP => by
  obtain rfl : ab_M_X1_weightAtLeast = M' := Option.some.inj hG
  unfold H_X1_weightAtLeast at hP
  split at hP
  · rename_i x0 x1
    exact dc_pv.imp (k_X1_weightAtLeast (Φ := fun (t : Option Int32) r m' => P (t.bind (fun q => k (some (.int q)) m)) → P (k r m')) x0 x1 m (fun _  h => h) rfl rfl) (fun r m' h => h hP)
  · exact absurd hP hz
def C_X1_hardest : List (Nat × dc_H) := []
theorem CO_X1_hardest {u : Nat} : dc_CO u C_X1_hardest := dc_CO_nil
def S_X1_hardest : List (Nat × List Nat) := [(2, [0, 1, 3])]
noncomputable def d_X1_hardest_l2b (x0 : Nat) (x1 : Int64) (x3 : Int32) (m : dc_M) : Option (Int32 ⊕ Int32) :=
  (if (Int32.toInt (m.1 x0 9)) ≤ (Int32.toInt x3) then some (Sum.inr ((0 : Int32))) else (if (Int32.toInt (lg_cmp ((((x1).toUInt64 >>> ((Int32.toInt64 (m.1 (x0 + 8) (Int32.toNatClampNeg x3))).toUInt64 &&& Int64.toUInt64 63)).toInt64) &&& (1 : Int64)) (0 : Int64))) = 0 then some (Sum.inl (x3 + (1 : Int32))) else some (Sum.inr ((m.1 (x0 + 8) (Int32.toNatClampNeg x3))))))
noncomputable def d_X1_hardest_l2s (x0 : Nat) (x1 : Int64) (m : dc_M) : Int32 → Option (Int32 ⊕ Int32) := fun s => d_X1_hardest_l2b x0 x1 s m
noncomputable def d_X1_hardest_l2 (x0 : Nat) (x1 : Int64) (x3 : Int32) (m : dc_M) : Option Int32 := dc_lp (d_X1_hardest_l2s x0 x1 m) x3
set_option maxHeartbeats 8000000 in
theorem k_X1_hardest_l2 {u : Nat} {Φ : (Option Int32) → Option Value → dc_M → Prop} (x0 : Nat) (x1 : Int64) (m : dc_M) (kR : ∀ (v : Int32), Φ (some (v)) (some (.int v)) m) : ∀ (N : Nat), ∀ (x3 : Int32) (lv : ab_L), ab_lk lv 0 = some (.ref x0) → ab_lk lv 1 = some (.long x1) → ab_lk lv 3 = some (.int x3) → dc_pv u N ab_M_X1_hardest 2 lv [] m (Φ (d_X1_hardest_l2 x0 x1 x3 m)) := by
  intro N
  induction N with
  | zero => intros; exact dc_pv_zero
  | succ N ih =>
    intro x3 lv f0 f1 f3
    refine dc_ok (C := C_X1_hardest) (S := S_X1_hardest) CO_X1_hardest 400 2 [(0, .ref x0), (1, .long x1), (3, .int x3)] lv [] m (dc_sub_cons f0 (dc_sub_cons f1 (dc_sub_cons f3 (dc_sub_nil)))) ?_
    unfold d_X1_hardest_l2
    rw [dc_lp_eq]
    show (fun t x => dc_lf u N ab_M_X1_hardest (Φ (Option.bind t (dc_bk (d_X1_hardest_l2s x0 x1 m)))) x) (d_X1_hardest_l2b x0 x1 x3 m) _
    dsimp only
    unfold d_X1_hardest_l2b
    refine dg_s (pc' := 3) [.int x3] rfl (fun _ => rfl) rfl ?_
    refine dg_s (pc' := 4) [.ref x0, .int x3] rfl (fun _ => rfl) rfl ?_
    refine dg_s (pc' := 7) [.int (m.1 x0 9), .int x3] rfl (fun _ => rfl) rfl ?_
    refine dw_if (fun t => Φ (Option.bind t (dc_bk (d_X1_hardest_l2s x0 x1 m)))) ((Int32.toInt (m.1 x0 9)) ≤ (Int32.toInt x3)) [] 38 10 rfl (fun _ => rfl) (fun c0 => ?_) (fun c0 => ?_)
    · refine dw_g rfl ?_
      refine dg_s (pc' := 39) [.int (0 : Int32)] rfl (fun _ => rfl) rfl ?_
      exact dw_r (some (.inl (some (.int (0 : Int32)), m))) rfl (fun _ => rfl) (kR _)
    · refine dw_g rfl ?_
      refine dg_s (pc' := 11) [.long x1] rfl (fun _ => rfl) rfl ?_
      refine dg_s (pc' := 12) [.ref x0, .long x1] rfl (fun _ => rfl) rfl ?_
      refine dg_s (pc' := 15) [.ref (x0 + 8), .long x1] rfl (fun _ => rfl) rfl ?_
      refine dg_s (pc' := 16) [.int x3, .ref (x0 + 8), .long x1] rfl (fun _ => rfl) rfl ?_
      refine dg_s (pc' := 17) [.int (m.1 (x0 + 8) (Int32.toNatClampNeg x3)), .long x1] rfl (fun _ => rfl) rfl ?_
      refine dg_s (pc' := 18) [.long (((x1).toUInt64 >>> ((Int32.toInt64 (m.1 (x0 + 8) (Int32.toNatClampNeg x3))).toUInt64 &&& Int64.toUInt64 63)).toInt64)] rfl (fun _ => rfl) rfl ?_
      refine dg_s (pc' := 19) [.long (1 : Int64), .long (((x1).toUInt64 >>> ((Int32.toInt64 (m.1 (x0 + 8) (Int32.toNatClampNeg x3))).toUInt64 &&& Int64.toUInt64 63)).toInt64)] rfl (fun _ => rfl) rfl ?_
      refine dg_s (pc' := 20) [.long ((((x1).toUInt64 >>> ((Int32.toInt64 (m.1 (x0 + 8) (Int32.toNatClampNeg x3))).toUInt64 &&& Int64.toUInt64 63)).toInt64) &&& (1 : Int64))] rfl (fun _ => rfl) rfl ?_
      refine dg_s (pc' := 21) [.long (0 : Int64), .long ((((x1).toUInt64 >>> ((Int32.toInt64 (m.1 (x0 + 8) (Int32.toNatClampNeg x3))).toUInt64 &&& Int64.toUInt64 63)).toInt64) &&& (1 : Int64))] rfl (fun _ => rfl) rfl ?_
      refine dg_s (pc' := 22) [.int (lg_cmp ((((x1).toUInt64 >>> ((Int32.toInt64 (m.1 (x0 + 8) (Int32.toNatClampNeg x3))).toUInt64 &&& Int64.toUInt64 63)).toInt64) &&& (1 : Int64)) (0 : Int64))] rfl (fun _ => rfl) rfl ?_
      refine dw_if (fun t => Φ (Option.bind t (dc_bk (d_X1_hardest_l2s x0 x1 m)))) ((Int32.toInt (lg_cmp ((((x1).toUInt64 >>> ((Int32.toInt64 (m.1 (x0 + 8) (Int32.toNatClampNeg x3))).toUInt64 &&& Int64.toUInt64 63)).toInt64) &&& (1 : Int64)) (0 : Int64))) = 0) [] 32 25 rfl (fun _ => rfl) (fun c1 => ?_) (fun c1 => ?_)
      · refine dw_g rfl ?_
        refine dg_L (pc' := 35) [(3, .int (x3 + (1 : Int32))), (0, .ref x0), (1, .long x1)] [] rfl (fun _ => rfl) rfl ?_
        refine dw_s (pc' := 2) [] rfl (fun _ => rfl) ?_
        exact dw_j rfl (fun lv1 hv => ih (x3 + (1 : Int32)) lv1 (hv.1 _ rfl) (hv.2.1 _ rfl) (hv.2.2.1 _ rfl))
      · refine dw_g rfl ?_
        refine dg_s (pc' := 26) [.ref x0] rfl (fun _ => rfl) rfl ?_
        refine dg_s (pc' := 29) [.ref (x0 + 8)] rfl (fun _ => rfl) rfl ?_
        refine dg_s (pc' := 30) [.int x3, .ref (x0 + 8)] rfl (fun _ => rfl) rfl ?_
        refine dg_s (pc' := 31) [.int (m.1 (x0 + 8) (Int32.toNatClampNeg x3))] rfl (fun _ => rfl) rfl ?_
        exact dw_r (some (.inl (some (.int (m.1 (x0 + 8) (Int32.toNatClampNeg x3))), m))) rfl (fun _ => rfl) (kR _)
noncomputable def d_X1_hardest (x0 : Nat) (x1 : Int64) (m : dc_M) : Option Int32 :=
  (d_X1_hardest_l2 x0 x1 (0 : Int32) m)
set_option maxHeartbeats 8000000 in
theorem k_X1_hardest {u : Nat} {N : Nat} {Φ : (Option Int32) → Option Value → dc_M → Prop} (x0 : Nat) (x1 : Int64) (m : dc_M) (kR : ∀ (v : Int32), Φ (some (v)) (some (.int v)) m)  {lv : ab_L} (f0 : ab_lk lv 0 = some (.ref x0)) (f1 : ab_lk lv 1 = some (.long x1)) : dc_pv u N ab_M_X1_hardest 0 lv [] m (Φ (d_X1_hardest x0 x1 m)) := by
  refine dc_pv.mono (dc_ok (C := C_X1_hardest) (S := S_X1_hardest) CO_X1_hardest 400 0 [(0, .ref x0), (1, .long x1)] lv [] m (dc_sub_cons f0 (dc_sub_cons f1 (dc_sub_nil))) ?_) (Nat.le_succ N)
  unfold d_X1_hardest
  refine dg_s (pc' := 1) [.int (0 : Int32)] rfl (fun _ => rfl) rfl ?_
  refine dw_L (pc' := 2) [(3, .int (0 : Int32)), (0, .ref x0), (1, .long x1)] [] rfl (fun _ => rfl) ?_
  exact dw_j rfl (fun lv1 hv => k_X1_hardest_l2 (Φ := (fun t => Φ t)) x0 x1 m (fun _a  => kR _a) N  (0 : Int32) lv1 (hv.1 _ rfl) (hv.2.1 _ rfl) (hv.2.2.1 _ rfl))
noncomputable def H_X1_hardest : dc_H := fun As m k => match As with
  | [.ref x0, .long x1] => (d_X1_hardest x0 x1 m).bind (fun q => k (some (.int q)) m)
  | _ => dc_kz
theorem H_X1_hardest_ok {u : Nat} : dc_cok u 15 H_X1_hardest := fun M' hG N As m k P hz hP => by
  obtain rfl : ab_M_X1_hardest = M' := Option.some.inj hG
  unfold H_X1_hardest at hP
  split at hP
  · rename_i x0 x1
    exact dc_pv.imp (k_X1_hardest (Φ := fun (t : Option Int32) r m' => P (t.bind (fun q => k (some (.int q)) m)) → P (k r m')) x0 x1 m (fun _  h => h) rfl rfl) (fun r m' h => h hP)
  · exact absurd hP hz
def C_X1_isOutdone : List (Nat × dc_H) := []
theorem CO_X1_isOutdone {u : Nat} : dc_CO u C_X1_isOutdone := dc_CO_nil
def S_X1_isOutdone : List (Nat × List Nat) := [(13, [0, 1, 2, 3, 5, 7]), (118, [0, 1, 2, 3, 5, 7])]
noncomputable def d_X1_isOutdone_b118 (x0 : Nat) (x1 : Int32) (x2 : Int32) (x3 : Int64) (x5 : Int64) (x7 : Int32) (s0 : Int32) (m : dc_M) : Option (Int32 ⊕ Int32) :=
  (if (Int32.toInt s0) = 0 then some (Sum.inr ((1 : Int32))) else (if (Int32.toInt x1) ≤ (Int32.toInt x7) then some (Sum.inl (x7 + (1 : Int32))) else some (Sum.inr ((1 : Int32)))))
set_option maxHeartbeats 8000000 in
theorem k_X1_isOutdone_b118 {u : Nat} {N : Nat} {Φ : (Option (Int32 ⊕ Int32)) → Option Value → dc_M → Prop} (x0 : Nat) (x1 : Int32) (x2 : Int32) (x3 : Int64) (x5 : Int64) (x7 : Int32) (s0 : Int32) (m : dc_M) (kR : ∀ (v : Int32), Φ (some (Sum.inr (v))) (some (.int v)) m) (k13 : ∀ (x7 : Int32) (lv : ab_L), ab_lk lv 0 = some (.ref x0) → ab_lk lv 1 = some (.int x1) → ab_lk lv 2 = some (.int x2) → ab_lk lv 3 = some (.long x3) → ab_lk lv 5 = some (.long x5) → ab_lk lv 7 = some (.int x7) →  dc_pv u N ab_M_X1_isOutdone 13 lv [] m (Φ (some (Sum.inl x7)))) {lv : ab_L} (f0 : ab_lk lv 0 = some (.ref x0)) (f1 : ab_lk lv 1 = some (.int x1)) (f2 : ab_lk lv 2 = some (.int x2)) (f3 : ab_lk lv 3 = some (.long x3)) (f5 : ab_lk lv 5 = some (.long x5)) (f7 : ab_lk lv 7 = some (.int x7)) : dc_pv u N ab_M_X1_isOutdone 118 lv [.int s0] m (Φ (d_X1_isOutdone_b118 x0 x1 x2 x3 x5 x7 s0 m)) := by
  refine dc_pv.mono (dc_ok (C := C_X1_isOutdone) (S := S_X1_isOutdone) CO_X1_isOutdone 400 118 [(0, .ref x0), (1, .int x1), (2, .int x2), (3, .long x3), (5, .long x5), (7, .int x7)] lv [.int s0] m (dc_sub_cons f0 (dc_sub_cons f1 (dc_sub_cons f2 (dc_sub_cons f3 (dc_sub_cons f5 (dc_sub_cons f7 (dc_sub_nil))))))) ?_) (Nat.le_succ N)
  unfold d_X1_isOutdone_b118
  refine dg_L (pc' := 120) [(8, .int s0), (0, .ref x0), (1, .int x1), (2, .int x2), (3, .long x3), (5, .long x5), (7, .int x7)] [] rfl (fun _ => rfl) rfl ?_
  refine dg_s (pc' := 122) [.int s0] rfl (fun _ => rfl) rfl ?_
  refine dw_if (fun t => Φ t) ((Int32.toInt s0) = 0) [] 131 125 rfl (fun _ => rfl) (fun c0 => ?_) (fun c0 => ?_)
  · refine dw_g rfl ?_
    refine dg_s (pc' := 132) [.int (1 : Int32)] rfl (fun _ => rfl) rfl ?_
    exact dw_r (some (.inl (some (.int (1 : Int32)), m))) rfl (fun _ => rfl) (kR _)
  · refine dw_g rfl ?_
    refine dg_s (pc' := 127) [.int x7] rfl (fun _ => rfl) rfl ?_
    refine dg_s (pc' := 128) [.int x1, .int x7] rfl (fun _ => rfl) rfl ?_
    refine dw_if (fun t => Φ t) ((Int32.toInt x1) ≤ (Int32.toInt x7)) [] 133 131 rfl (fun _ => rfl) (fun c1 => ?_) (fun c1 => ?_)
    · refine dw_g rfl ?_
      refine dg_L (pc' := 136) [(7, .int (x7 + (1 : Int32))), (8, .int s0), (0, .ref x0), (1, .int x1), (2, .int x2), (3, .long x3), (5, .long x5)] [] rfl (fun _ => rfl) rfl ?_
      refine dw_s (pc' := 13) [] rfl (fun _ => rfl) ?_
      exact dw_j rfl (fun lv1 hv => k13 (x7 + (1 : Int32)) lv1 (hv.1 _ rfl) (hv.2.1 _ rfl) (hv.2.2.1 _ rfl) (hv.2.2.2.1 _ rfl) (hv.2.2.2.2.1 _ rfl) (hv.2.2.2.2.2.1 _ rfl))
    · refine dw_g rfl ?_
      refine dg_s (pc' := 132) [.int (1 : Int32)] rfl (fun _ => rfl) rfl ?_
      exact dw_r (some (.inl (some (.int (1 : Int32)), m))) rfl (fun _ => rfl) (kR _)
noncomputable def d_X1_isOutdone_l13b (x0 : Nat) (x1 : Int32) (x2 : Int32) (x3 : Int64) (x5 : Int64) (x7 : Int32) (m : dc_M) : Option (Int32 ⊕ Int32) :=
  (if (Int32.toInt (m.1 x0 1)) ≤ (Int32.toInt x7) then some (Sum.inr ((0 : Int32))) else (if (Int32.toInt x7) = (Int32.toInt x1) then some (Sum.inl (x7 + (1 : Int32))) else (if (Int32.toInt (lg_cmp (((((m.2.1 (x0 + 4) (Int32.toNatClampNeg x7))).toUInt64 >>> ((Int32.toInt64 x2).toUInt64 &&& Int64.toUInt64 63)).toInt64) &&& (1 : Int64)) (0 : Int64))) = 0 then some (Sum.inl (x7 + (1 : Int32))) else (if ¬ (Int32.toInt (lg_cmp (x5 &&& ((m.2.1 (x0 + 4) (Int32.toNatClampNeg x7)) ^^^ (-1 : Int64))) (0 : Int64))) = 0 then some (Sum.inl (x7 + (1 : Int32))) else (if (Int32.toInt (m.1 (x0 + 3) (Int32.toNatClampNeg x7))) ≤ (Int32.toInt (m.1 (x0 + 3) (Int32.toNatClampNeg x1))) then (if ¬ (Int32.toInt (m.1 (x0 + 3) (Int32.toNatClampNeg x7))) = (Int32.toInt (m.1 (x0 + 3) (Int32.toNatClampNeg x1))) then (d_X1_isOutdone_b118 x0 x1 x2 x3 x5 x7 (0 : Int32) m) else (if ¬ (Int32.toInt (lg_cmp ((m.2.1 (x0 + 4) (Int32.toNatClampNeg x7)) &&& x3) x5)) = 0 then (d_X1_isOutdone_b118 x0 x1 x2 x3 x5 x7 (0 : Int32) m) else (d_X1_isOutdone_b118 x0 x1 x2 x3 x5 x7 (1 : Int32) m))) else some (Sum.inl (x7 + (1 : Int32))))))))
noncomputable def d_X1_isOutdone_l13s (x0 : Nat) (x1 : Int32) (x2 : Int32) (x3 : Int64) (x5 : Int64) (m : dc_M) : Int32 → Option (Int32 ⊕ Int32) := fun s => d_X1_isOutdone_l13b x0 x1 x2 x3 x5 s m
noncomputable def d_X1_isOutdone_l13 (x0 : Nat) (x1 : Int32) (x2 : Int32) (x3 : Int64) (x5 : Int64) (x7 : Int32) (m : dc_M) : Option Int32 := dc_lp (d_X1_isOutdone_l13s x0 x1 x2 x3 x5 m) x7
set_option maxHeartbeats 8000000 in
theorem k_X1_isOutdone_l13 {u : Nat} {Φ : (Option Int32) → Option Value → dc_M → Prop} (x0 : Nat) (x1 : Int32) (x2 : Int32) (x3 : Int64) (x5 : Int64) (m : dc_M) (kR : ∀ (v : Int32), Φ (some (v)) (some (.int v)) m) : ∀ (N : Nat), ∀ (x7 : Int32) (lv : ab_L), ab_lk lv 0 = some (.ref x0) → ab_lk lv 1 = some (.int x1) → ab_lk lv 2 = some (.int x2) → ab_lk lv 3 = some (.long x3) → ab_lk lv 5 = some (.long x5) → ab_lk lv 7 = some (.int x7) → dc_pv u N ab_M_X1_isOutdone 13 lv [] m (Φ (d_X1_isOutdone_l13 x0 x1 x2 x3 x5 x7 m)) := by
  intro N
  induction N with
  | zero => intros; exact dc_pv_zero
  | succ N ih =>
    intro x7 lv f0 f1 f2 f3 f5 f7
    refine dc_ok (C := C_X1_isOutdone) (S := S_X1_isOutdone) CO_X1_isOutdone 400 13 [(0, .ref x0), (1, .int x1), (2, .int x2), (3, .long x3), (5, .long x5), (7, .int x7)] lv [] m (dc_sub_cons f0 (dc_sub_cons f1 (dc_sub_cons f2 (dc_sub_cons f3 (dc_sub_cons f5 (dc_sub_cons f7 (dc_sub_nil))))))) ?_
    unfold d_X1_isOutdone_l13
    rw [dc_lp_eq]
    show (fun t x => dc_lf u N ab_M_X1_isOutdone (Φ (Option.bind t (dc_bk (d_X1_isOutdone_l13s x0 x1 x2 x3 x5 m)))) x) (d_X1_isOutdone_l13b x0 x1 x2 x3 x5 x7 m) _
    dsimp only
    unfold d_X1_isOutdone_l13b
    refine dg_s (pc' := 15) [.int x7] rfl (fun _ => rfl) rfl ?_
    refine dg_s (pc' := 16) [.ref x0, .int x7] rfl (fun _ => rfl) rfl ?_
    refine dg_s (pc' := 19) [.int (m.1 x0 1), .int x7] rfl (fun _ => rfl) rfl ?_
    refine dw_if (fun t => Φ (Option.bind t (dc_bk (d_X1_isOutdone_l13s x0 x1 x2 x3 x5 m)))) ((Int32.toInt (m.1 x0 1)) ≤ (Int32.toInt x7)) [] 139 22 rfl (fun _ => rfl) (fun c0 => ?_) (fun c0 => ?_)
    · refine dw_g rfl ?_
      refine dg_s (pc' := 140) [.int (0 : Int32)] rfl (fun _ => rfl) rfl ?_
      exact dw_r (some (.inl (some (.int (0 : Int32)), m))) rfl (fun _ => rfl) (kR _)
    · refine dw_g rfl ?_
      refine dg_s (pc' := 24) [.int x7] rfl (fun _ => rfl) rfl ?_
      refine dg_s (pc' := 25) [.int x1, .int x7] rfl (fun _ => rfl) rfl ?_
      refine dw_if (fun t => Φ (Option.bind t (dc_bk (d_X1_isOutdone_l13s x0 x1 x2 x3 x5 m)))) ((Int32.toInt x7) = (Int32.toInt x1)) [] 133 28 rfl (fun _ => rfl) (fun c1 => ?_) (fun c1 => ?_)
      · refine dw_g rfl ?_
        refine dg_L (pc' := 136) [(7, .int (x7 + (1 : Int32))), (0, .ref x0), (1, .int x1), (2, .int x2), (3, .long x3), (5, .long x5)] [] rfl (fun _ => rfl) rfl ?_
        refine dw_s (pc' := 13) [] rfl (fun _ => rfl) ?_
        exact dw_j rfl (fun lv1 hv => ih (x7 + (1 : Int32)) lv1 (hv.1 _ rfl) (hv.2.1 _ rfl) (hv.2.2.1 _ rfl) (hv.2.2.2.1 _ rfl) (hv.2.2.2.2.1 _ rfl) (hv.2.2.2.2.2.1 _ rfl))
      · refine dw_g rfl ?_
        refine dg_s (pc' := 29) [.ref x0] rfl (fun _ => rfl) rfl ?_
        refine dg_s (pc' := 32) [.ref (x0 + 4)] rfl (fun _ => rfl) rfl ?_
        refine dg_s (pc' := 34) [.int x7, .ref (x0 + 4)] rfl (fun _ => rfl) rfl ?_
        refine dg_s (pc' := 35) [.long (m.2.1 (x0 + 4) (Int32.toNatClampNeg x7))] rfl (fun _ => rfl) rfl ?_
        refine dg_s (pc' := 36) [.int x2, .long (m.2.1 (x0 + 4) (Int32.toNatClampNeg x7))] rfl (fun _ => rfl) rfl ?_
        refine dg_s (pc' := 37) [.long ((((m.2.1 (x0 + 4) (Int32.toNatClampNeg x7))).toUInt64 >>> ((Int32.toInt64 x2).toUInt64 &&& Int64.toUInt64 63)).toInt64)] rfl (fun _ => rfl) rfl ?_
        refine dg_s (pc' := 38) [.long (1 : Int64), .long ((((m.2.1 (x0 + 4) (Int32.toNatClampNeg x7))).toUInt64 >>> ((Int32.toInt64 x2).toUInt64 &&& Int64.toUInt64 63)).toInt64)] rfl (fun _ => rfl) rfl ?_
        refine dg_s (pc' := 39) [.long (((((m.2.1 (x0 + 4) (Int32.toNatClampNeg x7))).toUInt64 >>> ((Int32.toInt64 x2).toUInt64 &&& Int64.toUInt64 63)).toInt64) &&& (1 : Int64))] rfl (fun _ => rfl) rfl ?_
        refine dg_s (pc' := 40) [.long (0 : Int64), .long (((((m.2.1 (x0 + 4) (Int32.toNatClampNeg x7))).toUInt64 >>> ((Int32.toInt64 x2).toUInt64 &&& Int64.toUInt64 63)).toInt64) &&& (1 : Int64))] rfl (fun _ => rfl) rfl ?_
        refine dg_s (pc' := 41) [.int (lg_cmp (((((m.2.1 (x0 + 4) (Int32.toNatClampNeg x7))).toUInt64 >>> ((Int32.toInt64 x2).toUInt64 &&& Int64.toUInt64 63)).toInt64) &&& (1 : Int64)) (0 : Int64))] rfl (fun _ => rfl) rfl ?_
        refine dw_if (fun t => Φ (Option.bind t (dc_bk (d_X1_isOutdone_l13s x0 x1 x2 x3 x5 m)))) ((Int32.toInt (lg_cmp (((((m.2.1 (x0 + 4) (Int32.toNatClampNeg x7))).toUInt64 >>> ((Int32.toInt64 x2).toUInt64 &&& Int64.toUInt64 63)).toInt64) &&& (1 : Int64)) (0 : Int64))) = 0) [] 133 44 rfl (fun _ => rfl) (fun c2 => ?_) (fun c2 => ?_)
        · refine dw_g rfl ?_
          refine dg_L (pc' := 136) [(7, .int (x7 + (1 : Int32))), (0, .ref x0), (1, .int x1), (2, .int x2), (3, .long x3), (5, .long x5)] [] rfl (fun _ => rfl) rfl ?_
          refine dw_s (pc' := 13) [] rfl (fun _ => rfl) ?_
          exact dw_j rfl (fun lv1 hv => ih (x7 + (1 : Int32)) lv1 (hv.1 _ rfl) (hv.2.1 _ rfl) (hv.2.2.1 _ rfl) (hv.2.2.2.1 _ rfl) (hv.2.2.2.2.1 _ rfl) (hv.2.2.2.2.2.1 _ rfl))
        · refine dw_g rfl ?_
          refine dg_s (pc' := 46) [.long x5] rfl (fun _ => rfl) rfl ?_
          refine dg_s (pc' := 47) [.ref x0, .long x5] rfl (fun _ => rfl) rfl ?_
          refine dg_s (pc' := 50) [.ref (x0 + 4), .long x5] rfl (fun _ => rfl) rfl ?_
          refine dg_s (pc' := 52) [.int x7, .ref (x0 + 4), .long x5] rfl (fun _ => rfl) rfl ?_
          refine dg_s (pc' := 53) [.long (m.2.1 (x0 + 4) (Int32.toNatClampNeg x7)), .long x5] rfl (fun _ => rfl) rfl ?_
          refine dg_s (pc' := 56) [.long (-1 : Int64), .long (m.2.1 (x0 + 4) (Int32.toNatClampNeg x7)), .long x5] rfl (fun _ => rfl) rfl ?_
          refine dg_s (pc' := 57) [.long ((m.2.1 (x0 + 4) (Int32.toNatClampNeg x7)) ^^^ (-1 : Int64)), .long x5] rfl (fun _ => rfl) rfl ?_
          refine dg_s (pc' := 58) [.long (x5 &&& ((m.2.1 (x0 + 4) (Int32.toNatClampNeg x7)) ^^^ (-1 : Int64)))] rfl (fun _ => rfl) rfl ?_
          refine dg_s (pc' := 59) [.long (0 : Int64), .long (x5 &&& ((m.2.1 (x0 + 4) (Int32.toNatClampNeg x7)) ^^^ (-1 : Int64)))] rfl (fun _ => rfl) rfl ?_
          refine dg_s (pc' := 60) [.int (lg_cmp (x5 &&& ((m.2.1 (x0 + 4) (Int32.toNatClampNeg x7)) ^^^ (-1 : Int64))) (0 : Int64))] rfl (fun _ => rfl) rfl ?_
          refine dw_if (fun t => Φ (Option.bind t (dc_bk (d_X1_isOutdone_l13s x0 x1 x2 x3 x5 m)))) (¬ (Int32.toInt (lg_cmp (x5 &&& ((m.2.1 (x0 + 4) (Int32.toNatClampNeg x7)) ^^^ (-1 : Int64))) (0 : Int64))) = 0) [] 133 63 rfl (fun _ => rfl) (fun c3 => ?_) (fun c3 => ?_)
          · refine dw_g rfl ?_
            refine dg_L (pc' := 136) [(7, .int (x7 + (1 : Int32))), (0, .ref x0), (1, .int x1), (2, .int x2), (3, .long x3), (5, .long x5)] [] rfl (fun _ => rfl) rfl ?_
            refine dw_s (pc' := 13) [] rfl (fun _ => rfl) ?_
            exact dw_j rfl (fun lv1 hv => ih (x7 + (1 : Int32)) lv1 (hv.1 _ rfl) (hv.2.1 _ rfl) (hv.2.2.1 _ rfl) (hv.2.2.2.1 _ rfl) (hv.2.2.2.2.1 _ rfl) (hv.2.2.2.2.2.1 _ rfl))
          · refine dw_g rfl ?_
            refine dg_s (pc' := 64) [.ref x0] rfl (fun _ => rfl) rfl ?_
            refine dg_s (pc' := 67) [.ref (x0 + 3)] rfl (fun _ => rfl) rfl ?_
            refine dg_s (pc' := 69) [.int x7, .ref (x0 + 3)] rfl (fun _ => rfl) rfl ?_
            refine dg_s (pc' := 70) [.int (m.1 (x0 + 3) (Int32.toNatClampNeg x7))] rfl (fun _ => rfl) rfl ?_
            refine dg_s (pc' := 71) [.ref x0, .int (m.1 (x0 + 3) (Int32.toNatClampNeg x7))] rfl (fun _ => rfl) rfl ?_
            refine dg_s (pc' := 74) [.ref (x0 + 3), .int (m.1 (x0 + 3) (Int32.toNatClampNeg x7))] rfl (fun _ => rfl) rfl ?_
            refine dg_s (pc' := 75) [.int x1, .ref (x0 + 3), .int (m.1 (x0 + 3) (Int32.toNatClampNeg x7))] rfl (fun _ => rfl) rfl ?_
            refine dg_s (pc' := 76) [.int (m.1 (x0 + 3) (Int32.toNatClampNeg x1)), .int (m.1 (x0 + 3) (Int32.toNatClampNeg x7))] rfl (fun _ => rfl) rfl ?_
            refine dw_if (fun t => Φ (Option.bind t (dc_bk (d_X1_isOutdone_l13s x0 x1 x2 x3 x5 m)))) ((Int32.toInt (m.1 (x0 + 3) (Int32.toNatClampNeg x7))) ≤ (Int32.toInt (m.1 (x0 + 3) (Int32.toNatClampNeg x1)))) [] 82 79 rfl (fun _ => rfl) (fun c4 => ?_) (fun c4 => ?_)
            · refine dw_g rfl ?_
              refine dg_s (pc' := 83) [.ref x0] rfl (fun _ => rfl) rfl ?_
              refine dg_s (pc' := 86) [.ref (x0 + 3)] rfl (fun _ => rfl) rfl ?_
              refine dg_s (pc' := 88) [.int x7, .ref (x0 + 3)] rfl (fun _ => rfl) rfl ?_
              refine dg_s (pc' := 89) [.int (m.1 (x0 + 3) (Int32.toNatClampNeg x7))] rfl (fun _ => rfl) rfl ?_
              refine dg_s (pc' := 90) [.ref x0, .int (m.1 (x0 + 3) (Int32.toNatClampNeg x7))] rfl (fun _ => rfl) rfl ?_
              refine dg_s (pc' := 93) [.ref (x0 + 3), .int (m.1 (x0 + 3) (Int32.toNatClampNeg x7))] rfl (fun _ => rfl) rfl ?_
              refine dg_s (pc' := 94) [.int x1, .ref (x0 + 3), .int (m.1 (x0 + 3) (Int32.toNatClampNeg x7))] rfl (fun _ => rfl) rfl ?_
              refine dg_s (pc' := 95) [.int (m.1 (x0 + 3) (Int32.toNatClampNeg x1)), .int (m.1 (x0 + 3) (Int32.toNatClampNeg x7))] rfl (fun _ => rfl) rfl ?_
              refine dw_if (fun t => Φ (Option.bind t (dc_bk (d_X1_isOutdone_l13s x0 x1 x2 x3 x5 m)))) (¬ (Int32.toInt (m.1 (x0 + 3) (Int32.toNatClampNeg x7))) = (Int32.toInt (m.1 (x0 + 3) (Int32.toNatClampNeg x1)))) [] 117 98 rfl (fun _ => rfl) (fun c5 => ?_) (fun c5 => ?_)
              · refine dw_g rfl ?_
                refine dw_s (pc' := 118) [.int (0 : Int32)] rfl (fun _ => rfl) ?_
                exact dw_j rfl (fun lv1 hv => k_X1_isOutdone_b118 (Φ := (fun t => Φ (Option.bind t (dc_bk (d_X1_isOutdone_l13s x0 x1 x2 x3 x5 m))))) x0 x1 x2 x3 x5 x7 (0 : Int32) m (fun _a  => kR _a) ih (hv.1 _ rfl) (hv.2.1 _ rfl) (hv.2.2.1 _ rfl) (hv.2.2.2.1 _ rfl) (hv.2.2.2.2.1 _ rfl) (hv.2.2.2.2.2.1 _ rfl))
              · refine dw_g rfl ?_
                refine dg_s (pc' := 99) [.ref x0] rfl (fun _ => rfl) rfl ?_
                refine dg_s (pc' := 102) [.ref (x0 + 4)] rfl (fun _ => rfl) rfl ?_
                refine dg_s (pc' := 104) [.int x7, .ref (x0 + 4)] rfl (fun _ => rfl) rfl ?_
                refine dg_s (pc' := 105) [.long (m.2.1 (x0 + 4) (Int32.toNatClampNeg x7))] rfl (fun _ => rfl) rfl ?_
                refine dg_s (pc' := 106) [.long x3, .long (m.2.1 (x0 + 4) (Int32.toNatClampNeg x7))] rfl (fun _ => rfl) rfl ?_
                refine dg_s (pc' := 107) [.long ((m.2.1 (x0 + 4) (Int32.toNatClampNeg x7)) &&& x3)] rfl (fun _ => rfl) rfl ?_
                refine dg_s (pc' := 109) [.long x5, .long ((m.2.1 (x0 + 4) (Int32.toNatClampNeg x7)) &&& x3)] rfl (fun _ => rfl) rfl ?_
                refine dg_s (pc' := 110) [.int (lg_cmp ((m.2.1 (x0 + 4) (Int32.toNatClampNeg x7)) &&& x3) x5)] rfl (fun _ => rfl) rfl ?_
                refine dw_if (fun t => Φ (Option.bind t (dc_bk (d_X1_isOutdone_l13s x0 x1 x2 x3 x5 m)))) (¬ (Int32.toInt (lg_cmp ((m.2.1 (x0 + 4) (Int32.toNatClampNeg x7)) &&& x3) x5)) = 0) [] 117 113 rfl (fun _ => rfl) (fun c6 => ?_) (fun c6 => ?_)
                · refine dw_g rfl ?_
                  refine dw_s (pc' := 118) [.int (0 : Int32)] rfl (fun _ => rfl) ?_
                  exact dw_j rfl (fun lv1 hv => k_X1_isOutdone_b118 (Φ := (fun t => Φ (Option.bind t (dc_bk (d_X1_isOutdone_l13s x0 x1 x2 x3 x5 m))))) x0 x1 x2 x3 x5 x7 (0 : Int32) m (fun _a  => kR _a) ih (hv.1 _ rfl) (hv.2.1 _ rfl) (hv.2.2.1 _ rfl) (hv.2.2.2.1 _ rfl) (hv.2.2.2.2.1 _ rfl) (hv.2.2.2.2.2.1 _ rfl))
                · refine dw_g rfl ?_
                  refine dg_s (pc' := 114) [.int (1 : Int32)] rfl (fun _ => rfl) rfl ?_
                  refine dw_s (pc' := 118) [.int (1 : Int32)] rfl (fun _ => rfl) ?_
                  exact dw_j rfl (fun lv1 hv => k_X1_isOutdone_b118 (Φ := (fun t => Φ (Option.bind t (dc_bk (d_X1_isOutdone_l13s x0 x1 x2 x3 x5 m))))) x0 x1 x2 x3 x5 x7 (1 : Int32) m (fun _a  => kR _a) ih (hv.1 _ rfl) (hv.2.1 _ rfl) (hv.2.2.1 _ rfl) (hv.2.2.2.1 _ rfl) (hv.2.2.2.2.1 _ rfl) (hv.2.2.2.2.2.1 _ rfl))
            · refine dw_g rfl ?_
              refine dg_s (pc' := 133) [] rfl (fun _ => rfl) rfl ?_
              refine dg_L (pc' := 136) [(7, .int (x7 + (1 : Int32))), (0, .ref x0), (1, .int x1), (2, .int x2), (3, .long x3), (5, .long x5)] [] rfl (fun _ => rfl) rfl ?_
              refine dw_s (pc' := 13) [] rfl (fun _ => rfl) ?_
              exact dw_j rfl (fun lv1 hv => ih (x7 + (1 : Int32)) lv1 (hv.1 _ rfl) (hv.2.1 _ rfl) (hv.2.2.1 _ rfl) (hv.2.2.2.1 _ rfl) (hv.2.2.2.2.1 _ rfl) (hv.2.2.2.2.2.1 _ rfl))
noncomputable def d_X1_isOutdone (x0 : Nat) (x1 : Int32) (x2 : Int32) (x3 : Int64) (m : dc_M) : Option Int32 :=
  (d_X1_isOutdone_l13 x0 x1 x2 x3 ((m.2.1 (x0 + 4) (Int32.toNatClampNeg x1)) &&& x3) (0 : Int32) m)
set_option maxHeartbeats 8000000 in
theorem k_X1_isOutdone {u : Nat} {N : Nat} {Φ : (Option Int32) → Option Value → dc_M → Prop} (x0 : Nat) (x1 : Int32) (x2 : Int32) (x3 : Int64) (m : dc_M) (kR : ∀ (v : Int32), Φ (some (v)) (some (.int v)) m)  {lv : ab_L} (f0 : ab_lk lv 0 = some (.ref x0)) (f1 : ab_lk lv 1 = some (.int x1)) (f2 : ab_lk lv 2 = some (.int x2)) (f3 : ab_lk lv 3 = some (.long x3)) : dc_pv u N ab_M_X1_isOutdone 0 lv [] m (Φ (d_X1_isOutdone x0 x1 x2 x3 m)) := by
  refine dc_pv.mono (dc_ok (C := C_X1_isOutdone) (S := S_X1_isOutdone) CO_X1_isOutdone 400 0 [(0, .ref x0), (1, .int x1), (2, .int x2), (3, .long x3)] lv [] m (dc_sub_cons f0 (dc_sub_cons f1 (dc_sub_cons f2 (dc_sub_cons f3 (dc_sub_nil))))) ?_) (Nat.le_succ N)
  unfold d_X1_isOutdone
  refine dg_s (pc' := 1) [.ref x0] rfl (fun _ => rfl) rfl ?_
  refine dg_s (pc' := 4) [.ref (x0 + 4)] rfl (fun _ => rfl) rfl ?_
  refine dg_s (pc' := 5) [.int x1, .ref (x0 + 4)] rfl (fun _ => rfl) rfl ?_
  refine dg_s (pc' := 6) [.long (m.2.1 (x0 + 4) (Int32.toNatClampNeg x1))] rfl (fun _ => rfl) rfl ?_
  refine dg_s (pc' := 7) [.long x3, .long (m.2.1 (x0 + 4) (Int32.toNatClampNeg x1))] rfl (fun _ => rfl) rfl ?_
  refine dg_s (pc' := 8) [.long ((m.2.1 (x0 + 4) (Int32.toNatClampNeg x1)) &&& x3)] rfl (fun _ => rfl) rfl ?_
  refine dg_L (pc' := 10) [(5, .long ((m.2.1 (x0 + 4) (Int32.toNatClampNeg x1)) &&& x3)), (0, .ref x0), (1, .int x1), (2, .int x2), (3, .long x3)] [] rfl (fun _ => rfl) rfl ?_
  refine dg_s (pc' := 11) [.int (0 : Int32)] rfl (fun _ => rfl) rfl ?_
  refine dw_L (pc' := 13) [(7, .int (0 : Int32)), (5, .long ((m.2.1 (x0 + 4) (Int32.toNatClampNeg x1)) &&& x3)), (0, .ref x0), (1, .int x1), (2, .int x2), (3, .long x3)] [] rfl (fun _ => rfl) ?_
  exact dw_j rfl (fun lv1 hv => k_X1_isOutdone_l13 (Φ := (fun t => Φ t)) x0 x1 x2 x3 ((m.2.1 (x0 + 4) (Int32.toNatClampNeg x1)) &&& x3) m (fun _a  => kR _a) N  (0 : Int32) lv1 (hv.1 _ rfl) (hv.2.1 _ rfl) (hv.2.2.1 _ rfl) (hv.2.2.2.1 _ rfl) (hv.2.2.2.2.1 _ rfl) (hv.2.2.2.2.2.1 _ rfl))
noncomputable def H_X1_isOutdone : dc_H := fun As m k => match As with
  | [.ref x0, .int x1, .int x2, .long x3] => (d_X1_isOutdone x0 x1 x2 x3 m).bind (fun q => k (some (.int q)) m)
  | _ => dc_kz
theorem H_X1_isOutdone_ok {u : Nat} : dc_cok u 16 H_X1_isOutdone := fun M' hG N As m k P hz hP => by
  obtain rfl : ab_M_X1_isOutdone = M' := Option.some.inj hG
  unfold H_X1_isOutdone at hP
  split at hP
  · rename_i x0 x1 x2 x3
    exact dc_pv.imp (k_X1_isOutdone (Φ := fun (t : Option Int32) r m' => P (t.bind (fun q => k (some (.int q)) m)) → P (k r m')) x0 x1 x2 x3 m (fun _  h => h) rfl rfl rfl rfl) (fun r m' h => h hP)
  · exact absurd hP hz
def C_X2_markingOf : List (Nat × dc_H) := []
theorem CO_X2_markingOf {u : Nat} : dc_CO u C_X2_markingOf := dc_CO_nil
def S_X2_markingOf : List (Nat × List Nat) := []
def d_X2_markingOf (x0 : Nat) (x1 : Nat) (m : dc_M) : Int32 :=
  (if (Int32.toInt (m.1 x0 0)) ≤ 0 then (m.1 x1 13) else (if 100 < (Int32.toInt (m.1 x0 0)) then (m.1 x1 13) else (m.1 (x0 + 2) (Int32.toNatClampNeg ((m.1 x0 0) - (1 : Int32))))))
set_option maxHeartbeats 8000000 in
theorem k_X2_markingOf {u : Nat} {N : Nat} {Φ : Int32 → Option Value → dc_M → Prop} (x0 : Nat) (x1 : Nat) (m : dc_M) (kR : ∀ (v : Int32), Φ (v) (some (.int v)) m)  {lv : ab_L} (f0 : ab_lk lv 0 = some (.ref x0)) (f1 : ab_lk lv 1 = some (.ref x1)) : dc_pv u N ab_M_X2_markingOf 0 lv [] m (Φ (d_X2_markingOf x0 x1 m)) := by
  refine dc_pv.mono (dc_ok (C := C_X2_markingOf) (S := S_X2_markingOf) CO_X2_markingOf 400 0 [(0, .ref x0), (1, .ref x1)] lv [] m (dc_sub_cons f0 (dc_sub_cons f1 (dc_sub_nil))) ?_) (Nat.le_succ N)
  unfold d_X2_markingOf
  refine dg_s (pc' := 1) [.ref x0] rfl (fun _ => rfl) rfl ?_
  refine dg_s (pc' := 4) [.int (m.1 x0 0)] rfl (fun _ => rfl) rfl ?_
  refine dw_if (fun t => Φ t) ((Int32.toInt (m.1 x0 0)) ≤ 0) [] 30 7 rfl (fun _ => rfl) (fun c0 => ?_) (fun c0 => ?_)
  · refine dw_g rfl ?_
    refine dg_s (pc' := 31) [.ref x1] rfl (fun _ => rfl) rfl ?_
    refine dg_s (pc' := 34) [.int (m.1 x1 13)] rfl (fun _ => rfl) rfl ?_
    exact dw_r (some (.inl (some (.int (m.1 x1 13)), m))) rfl (fun _ => rfl) (kR _)
  · refine dw_g rfl ?_
    refine dg_s (pc' := 8) [.ref x0] rfl (fun _ => rfl) rfl ?_
    refine dg_s (pc' := 11) [.int (m.1 x0 0)] rfl (fun _ => rfl) rfl ?_
    refine dg_s (pc' := 13) [.int (100 : Int32), .int (m.1 x0 0)] rfl (fun _ => rfl) rfl ?_
    refine dw_if (fun t => Φ t) (100 < (Int32.toInt (m.1 x0 0))) [] 30 16 rfl (fun _ => rfl) (fun c1 => ?_) (fun c1 => ?_)
    · refine dw_g rfl ?_
      refine dg_s (pc' := 31) [.ref x1] rfl (fun _ => rfl) rfl ?_
      refine dg_s (pc' := 34) [.int (m.1 x1 13)] rfl (fun _ => rfl) rfl ?_
      exact dw_r (some (.inl (some (.int (m.1 x1 13)), m))) rfl (fun _ => rfl) (kR _)
    · refine dw_g rfl ?_
      refine dg_s (pc' := 17) [.ref x0] rfl (fun _ => rfl) rfl ?_
      refine dg_s (pc' := 20) [.ref (x0 + 2)] rfl (fun _ => rfl) rfl ?_
      refine dg_s (pc' := 21) [.ref x0, .ref (x0 + 2)] rfl (fun _ => rfl) rfl ?_
      refine dg_s (pc' := 24) [.int (m.1 x0 0), .ref (x0 + 2)] rfl (fun _ => rfl) rfl ?_
      refine dg_s (pc' := 25) [.int (1 : Int32), .int (m.1 x0 0), .ref (x0 + 2)] rfl (fun _ => rfl) rfl ?_
      refine dg_s (pc' := 26) [.int ((m.1 x0 0) - (1 : Int32)), .ref (x0 + 2)] rfl (fun _ => rfl) rfl ?_
      refine dg_s (pc' := 27) [.int (m.1 (x0 + 2) (Int32.toNatClampNeg ((m.1 x0 0) - (1 : Int32))))] rfl (fun _ => rfl) rfl ?_
      refine dg_s (pc' := 34) [.int (m.1 (x0 + 2) (Int32.toNatClampNeg ((m.1 x0 0) - (1 : Int32))))] rfl (fun _ => rfl) rfl ?_
      exact dw_r (some (.inl (some (.int (m.1 (x0 + 2) (Int32.toNatClampNeg ((m.1 x0 0) - (1 : Int32))))), m))) rfl (fun _ => rfl) (kR _)
def H_X2_markingOf : dc_H := fun As m k => match As with
  | [.ref x0, .ref x1] => k (some (.int (d_X2_markingOf x0 x1 m))) m
  | _ => dc_kz
theorem H_X2_markingOf_ok {u : Nat} : dc_cok u 18 H_X2_markingOf := fun M' hG N As m k P hz hP => by
  obtain rfl : ab_M_X2_markingOf = M' := Option.some.inj hG
  unfold H_X2_markingOf at hP
  split at hP
  · rename_i x0 x1
    exact dc_pv.imp (k_X2_markingOf (Φ := fun (t : Int32) r m' => P (k (some (.int t)) m) → P (k r m')) x0 x1 m (fun _  h => h) rfl rfl) (fun r m' h => h hP)
  · exact absurd hP hz
def C_X2_latest : List (Nat × dc_H) := []
theorem CO_X2_latest {u : Nat} : dc_CO u C_X2_latest := dc_CO_nil
def S_X2_latest : List (Nat × List Nat) := []
def d_X2_latest (x0 : Nat) (m : dc_M) : Int32 :=
  (if (Int32.toInt (m.1 x0 0)) ≤ 0 then (-4 : Int32) else (if 100 < (Int32.toInt (m.1 x0 0)) then (-4 : Int32) else (m.1 (x0 + 1) (Int32.toNatClampNeg ((m.1 x0 0) - (1 : Int32))))))
set_option maxHeartbeats 8000000 in
theorem k_X2_latest {u : Nat} {N : Nat} {Φ : Int32 → Option Value → dc_M → Prop} (x0 : Nat) (m : dc_M) (kR : ∀ (v : Int32), Φ (v) (some (.int v)) m)  {lv : ab_L} (f0 : ab_lk lv 0 = some (.ref x0)) : dc_pv u N ab_M_X2_latest 0 lv [] m (Φ (d_X2_latest x0 m)) := by
  refine dc_pv.mono (dc_ok (C := C_X2_latest) (S := S_X2_latest) CO_X2_latest 400 0 [(0, .ref x0)] lv [] m (dc_sub_cons f0 (dc_sub_nil)) ?_) (Nat.le_succ N)
  unfold d_X2_latest
  refine dg_s (pc' := 1) [.ref x0] rfl (fun _ => rfl) rfl ?_
  refine dg_s (pc' := 4) [.int (m.1 x0 0)] rfl (fun _ => rfl) rfl ?_
  refine dw_if (fun t => Φ t) ((Int32.toInt (m.1 x0 0)) ≤ 0) [] 30 7 rfl (fun _ => rfl) (fun c0 => ?_) (fun c0 => ?_)
  · refine dw_g rfl ?_
    refine dg_s (pc' := 32) [.int (-4 : Int32)] rfl (fun _ => rfl) rfl ?_
    exact dw_r (some (.inl (some (.int (-4 : Int32)), m))) rfl (fun _ => rfl) (kR _)
  · refine dw_g rfl ?_
    refine dg_s (pc' := 8) [.ref x0] rfl (fun _ => rfl) rfl ?_
    refine dg_s (pc' := 11) [.int (m.1 x0 0)] rfl (fun _ => rfl) rfl ?_
    refine dg_s (pc' := 13) [.int (100 : Int32), .int (m.1 x0 0)] rfl (fun _ => rfl) rfl ?_
    refine dw_if (fun t => Φ t) (100 < (Int32.toInt (m.1 x0 0))) [] 30 16 rfl (fun _ => rfl) (fun c1 => ?_) (fun c1 => ?_)
    · refine dw_g rfl ?_
      refine dg_s (pc' := 32) [.int (-4 : Int32)] rfl (fun _ => rfl) rfl ?_
      exact dw_r (some (.inl (some (.int (-4 : Int32)), m))) rfl (fun _ => rfl) (kR _)
    · refine dw_g rfl ?_
      refine dg_s (pc' := 17) [.ref x0] rfl (fun _ => rfl) rfl ?_
      refine dg_s (pc' := 20) [.ref (x0 + 1)] rfl (fun _ => rfl) rfl ?_
      refine dg_s (pc' := 21) [.ref x0, .ref (x0 + 1)] rfl (fun _ => rfl) rfl ?_
      refine dg_s (pc' := 24) [.int (m.1 x0 0), .ref (x0 + 1)] rfl (fun _ => rfl) rfl ?_
      refine dg_s (pc' := 25) [.int (1 : Int32), .int (m.1 x0 0), .ref (x0 + 1)] rfl (fun _ => rfl) rfl ?_
      refine dg_s (pc' := 26) [.int ((m.1 x0 0) - (1 : Int32)), .ref (x0 + 1)] rfl (fun _ => rfl) rfl ?_
      refine dg_s (pc' := 27) [.int (m.1 (x0 + 1) (Int32.toNatClampNeg ((m.1 x0 0) - (1 : Int32))))] rfl (fun _ => rfl) rfl ?_
      refine dg_s (pc' := 32) [.int (m.1 (x0 + 1) (Int32.toNatClampNeg ((m.1 x0 0) - (1 : Int32))))] rfl (fun _ => rfl) rfl ?_
      exact dw_r (some (.inl (some (.int (m.1 (x0 + 1) (Int32.toNatClampNeg ((m.1 x0 0) - (1 : Int32))))), m))) rfl (fun _ => rfl) (kR _)
def H_X2_latest : dc_H := fun As m k => match As with
  | [.ref x0] => k (some (.int (d_X2_latest x0 m))) m
  | _ => dc_kz
theorem H_X2_latest_ok {u : Nat} : dc_cok u 19 H_X2_latest := fun M' hG N As m k P hz hP => by
  obtain rfl : ab_M_X2_latest = M' := Option.some.inj hG
  unfold H_X2_latest at hP
  split at hP
  · rename_i x0
    exact dc_pv.imp (k_X2_latest (Φ := fun (t : Int32) r m' => P (k (some (.int t)) m) → P (k r m')) x0 m (fun _  h => h) rfl) (fun r m' h => h hP)
  · exact absurd hP hz
def C_X2_add : List (Nat × dc_H) := []
theorem CO_X2_add {u : Nat} : dc_CO u C_X2_add := dc_CO_nil
def S_X2_add : List (Nat × List Nat) := []
def d_X2_add (x0 : Nat) (x1 : Int32) (x2 : Int32) (m : dc_M) : (Int32 × dc_M) :=
  (if (Int32.toInt (m.1 x0 0)) < 100 then ((1 : Int32), (dc_wi (dc_wi (dc_wi m (x0 + 1) (Int32.toNatClampNeg (m.1 x0 0)) x1) (x0 + 2) (Int32.toNatClampNeg ((dc_wi m (x0 + 1) (Int32.toNatClampNeg (m.1 x0 0)) x1).1 x0 0)) x2) x0 0 (((dc_wi (dc_wi m (x0 + 1) (Int32.toNatClampNeg (m.1 x0 0)) x1) (x0 + 2) (Int32.toNatClampNeg ((dc_wi m (x0 + 1) (Int32.toNatClampNeg (m.1 x0 0)) x1).1 x0 0)) x2).1 x0 0) + (1 : Int32)))) else ((0 : Int32), m))
set_option maxHeartbeats 8000000 in
theorem k_X2_add {u : Nat} {N : Nat} {Φ : (Int32 × dc_M) → Option Value → dc_M → Prop} (x0 : Nat) (x1 : Int32) (x2 : Int32) (m : dc_M) (kR : ∀ (v : Int32) (m : dc_M), Φ ((v, m)) (some (.int v)) m)  {lv : ab_L} (f0 : ab_lk lv 0 = some (.ref x0)) (f1 : ab_lk lv 1 = some (.int x1)) (f2 : ab_lk lv 2 = some (.int x2)) : dc_pv u N ab_M_X2_add 0 lv [] m (Φ (d_X2_add x0 x1 x2 m)) := by
  refine dc_pv.mono (dc_ok (C := C_X2_add) (S := S_X2_add) CO_X2_add 400 0 [(0, .ref x0), (1, .int x1), (2, .int x2)] lv [] m (dc_sub_cons f0 (dc_sub_cons f1 (dc_sub_cons f2 (dc_sub_nil)))) ?_) (Nat.le_succ N)
  unfold d_X2_add
  refine dg_s (pc' := 1) [.ref x0] rfl (fun _ => rfl) rfl ?_
  refine dg_s (pc' := 4) [.int (m.1 x0 0)] rfl (fun _ => rfl) rfl ?_
  refine dg_s (pc' := 6) [.int (100 : Int32), .int (m.1 x0 0)] rfl (fun _ => rfl) rfl ?_
  refine dw_if (fun t => Φ t) ((Int32.toInt (m.1 x0 0)) < 100) [] 11 9 rfl (fun _ => rfl) (fun c0 => ?_) (fun c0 => ?_)
  · refine dw_g rfl ?_
    refine dg_s (pc' := 12) [.ref x0] rfl (fun _ => rfl) rfl ?_
    refine dg_s (pc' := 15) [.ref (x0 + 1)] rfl (fun _ => rfl) rfl ?_
    refine dg_s (pc' := 16) [.ref x0, .ref (x0 + 1)] rfl (fun _ => rfl) rfl ?_
    refine dg_s (pc' := 19) [.int (m.1 x0 0), .ref (x0 + 1)] rfl (fun _ => rfl) rfl ?_
    refine dg_s (pc' := 20) [.int x1, .int (m.1 x0 0), .ref (x0 + 1)] rfl (fun _ => rfl) rfl ?_
    refine dg_m (pc' := 21) (dc_wi m (x0 + 1) (Int32.toNatClampNeg (m.1 x0 0)) x1) [] rfl (fun _ => rfl) rfl ?_
    refine dg_s (pc' := 22) [.ref x0] rfl (fun _ => rfl) rfl ?_
    refine dg_s (pc' := 25) [.ref (x0 + 2)] rfl (fun _ => rfl) rfl ?_
    refine dg_s (pc' := 26) [.ref x0, .ref (x0 + 2)] rfl (fun _ => rfl) rfl ?_
    refine dg_s (pc' := 29) [.int ((dc_wi m (x0 + 1) (Int32.toNatClampNeg (m.1 x0 0)) x1).1 x0 0), .ref (x0 + 2)] rfl (fun _ => rfl) rfl ?_
    refine dg_s (pc' := 30) [.int x2, .int ((dc_wi m (x0 + 1) (Int32.toNatClampNeg (m.1 x0 0)) x1).1 x0 0), .ref (x0 + 2)] rfl (fun _ => rfl) rfl ?_
    refine dg_m (pc' := 31) (dc_wi (dc_wi m (x0 + 1) (Int32.toNatClampNeg (m.1 x0 0)) x1) (x0 + 2) (Int32.toNatClampNeg ((dc_wi m (x0 + 1) (Int32.toNatClampNeg (m.1 x0 0)) x1).1 x0 0)) x2) [] rfl (fun _ => rfl) rfl ?_
    refine dg_s (pc' := 32) [.ref x0] rfl (fun _ => rfl) rfl ?_
    refine dg_s (pc' := 33) [.ref x0, .ref x0] rfl (fun _ => rfl) rfl ?_
    refine dg_s (pc' := 36) [.int ((dc_wi (dc_wi m (x0 + 1) (Int32.toNatClampNeg (m.1 x0 0)) x1) (x0 + 2) (Int32.toNatClampNeg ((dc_wi m (x0 + 1) (Int32.toNatClampNeg (m.1 x0 0)) x1).1 x0 0)) x2).1 x0 0), .ref x0] rfl (fun _ => rfl) rfl ?_
    refine dg_s (pc' := 37) [.int (1 : Int32), .int ((dc_wi (dc_wi m (x0 + 1) (Int32.toNatClampNeg (m.1 x0 0)) x1) (x0 + 2) (Int32.toNatClampNeg ((dc_wi m (x0 + 1) (Int32.toNatClampNeg (m.1 x0 0)) x1).1 x0 0)) x2).1 x0 0), .ref x0] rfl (fun _ => rfl) rfl ?_
    refine dg_s (pc' := 38) [.int (((dc_wi (dc_wi m (x0 + 1) (Int32.toNatClampNeg (m.1 x0 0)) x1) (x0 + 2) (Int32.toNatClampNeg ((dc_wi m (x0 + 1) (Int32.toNatClampNeg (m.1 x0 0)) x1).1 x0 0)) x2).1 x0 0) + (1 : Int32)), .ref x0] rfl (fun _ => rfl) rfl ?_
    refine dg_m (pc' := 41) (dc_wi (dc_wi (dc_wi m (x0 + 1) (Int32.toNatClampNeg (m.1 x0 0)) x1) (x0 + 2) (Int32.toNatClampNeg ((dc_wi m (x0 + 1) (Int32.toNatClampNeg (m.1 x0 0)) x1).1 x0 0)) x2) x0 0 (((dc_wi (dc_wi m (x0 + 1) (Int32.toNatClampNeg (m.1 x0 0)) x1) (x0 + 2) (Int32.toNatClampNeg ((dc_wi m (x0 + 1) (Int32.toNatClampNeg (m.1 x0 0)) x1).1 x0 0)) x2).1 x0 0) + (1 : Int32))) [] rfl (fun _ => rfl) rfl ?_
    refine dg_s (pc' := 42) [.int (1 : Int32)] rfl (fun _ => rfl) rfl ?_
    exact dw_r (some (.inl (some (.int (1 : Int32)), (dc_wi (dc_wi (dc_wi m (x0 + 1) (Int32.toNatClampNeg (m.1 x0 0)) x1) (x0 + 2) (Int32.toNatClampNeg ((dc_wi m (x0 + 1) (Int32.toNatClampNeg (m.1 x0 0)) x1).1 x0 0)) x2) x0 0 (((dc_wi (dc_wi m (x0 + 1) (Int32.toNatClampNeg (m.1 x0 0)) x1) (x0 + 2) (Int32.toNatClampNeg ((dc_wi m (x0 + 1) (Int32.toNatClampNeg (m.1 x0 0)) x1).1 x0 0)) x2).1 x0 0) + (1 : Int32)))))) rfl (fun _ => rfl) (kR _ _)
  · refine dw_g rfl ?_
    refine dg_s (pc' := 10) [.int (0 : Int32)] rfl (fun _ => rfl) rfl ?_
    exact dw_r (some (.inl (some (.int (0 : Int32)), m))) rfl (fun _ => rfl) (kR _ _)
def H_X2_add : dc_H := fun As m k => match As with
  | [.ref x0, .int x1, .int x2] => dc_let (d_X2_add x0 x1 x2 m) (fun q => k (some (.int q.1)) q.2)
  | _ => dc_kz
theorem H_X2_add_ok {u : Nat} : dc_cok u 20 H_X2_add := fun M' hG N As m k P hz hP => by
  obtain rfl : ab_M_X2_add = M' := Option.some.inj hG
  unfold H_X2_add at hP
  split at hP
  · rename_i x0 x1 x2
    exact dc_pv.imp (k_X2_add (Φ := fun (t : (Int32 × dc_M)) r m' => P (dc_let t (fun q => k (some (.int q.1)) q.2)) → P (k r m')) x0 x1 x2 m (fun _ _ h => h) rfl rfl rfl) (fun r m' h => h hP)
  · exact absurd hP hz
def C_X2_dropLatest : List (Nat × dc_H) := []
theorem CO_X2_dropLatest {u : Nat} : dc_CO u C_X2_dropLatest := dc_CO_nil
def S_X2_dropLatest : List (Nat × List Nat) := []
def d_X2_dropLatest (x0 : Nat) (m : dc_M) : (Int32 × dc_M) :=
  (if 0 < (Int32.toInt (m.1 x0 0)) then ((1 : Int32), (dc_wi m x0 0 ((m.1 x0 0) - (1 : Int32)))) else ((0 : Int32), m))
set_option maxHeartbeats 8000000 in
theorem k_X2_dropLatest {u : Nat} {N : Nat} {Φ : (Int32 × dc_M) → Option Value → dc_M → Prop} (x0 : Nat) (m : dc_M) (kR : ∀ (v : Int32) (m : dc_M), Φ ((v, m)) (some (.int v)) m)  {lv : ab_L} (f0 : ab_lk lv 0 = some (.ref x0)) : dc_pv u N ab_M_X2_dropLatest 0 lv [] m (Φ (d_X2_dropLatest x0 m)) := by
  refine dc_pv.mono (dc_ok (C := C_X2_dropLatest) (S := S_X2_dropLatest) CO_X2_dropLatest 400 0 [(0, .ref x0)] lv [] m (dc_sub_cons f0 (dc_sub_nil)) ?_) (Nat.le_succ N)
  unfold d_X2_dropLatest
  refine dg_s (pc' := 1) [.ref x0] rfl (fun _ => rfl) rfl ?_
  refine dg_s (pc' := 4) [.int (m.1 x0 0)] rfl (fun _ => rfl) rfl ?_
  refine dw_if (fun t => Φ t) (0 < (Int32.toInt (m.1 x0 0))) [] 9 7 rfl (fun _ => rfl) (fun c0 => ?_) (fun c0 => ?_)
  · refine dw_g rfl ?_
    refine dg_s (pc' := 10) [.ref x0] rfl (fun _ => rfl) rfl ?_
    refine dg_s (pc' := 11) [.ref x0, .ref x0] rfl (fun _ => rfl) rfl ?_
    refine dg_s (pc' := 14) [.int (m.1 x0 0), .ref x0] rfl (fun _ => rfl) rfl ?_
    refine dg_s (pc' := 15) [.int (1 : Int32), .int (m.1 x0 0), .ref x0] rfl (fun _ => rfl) rfl ?_
    refine dg_s (pc' := 16) [.int ((m.1 x0 0) - (1 : Int32)), .ref x0] rfl (fun _ => rfl) rfl ?_
    refine dg_m (pc' := 19) (dc_wi m x0 0 ((m.1 x0 0) - (1 : Int32))) [] rfl (fun _ => rfl) rfl ?_
    refine dg_s (pc' := 20) [.int (1 : Int32)] rfl (fun _ => rfl) rfl ?_
    exact dw_r (some (.inl (some (.int (1 : Int32)), (dc_wi m x0 0 ((m.1 x0 0) - (1 : Int32)))))) rfl (fun _ => rfl) (kR _ _)
  · refine dw_g rfl ?_
    refine dg_s (pc' := 8) [.int (0 : Int32)] rfl (fun _ => rfl) rfl ?_
    exact dw_r (some (.inl (some (.int (0 : Int32)), m))) rfl (fun _ => rfl) (kR _ _)
def H_X2_dropLatest : dc_H := fun As m k => match As with
  | [.ref x0] => dc_let (d_X2_dropLatest x0 m) (fun q => k (some (.int q.1)) q.2)
  | _ => dc_kz
theorem H_X2_dropLatest_ok {u : Nat} : dc_cok u 21 H_X2_dropLatest := fun M' hG N As m k P hz hP => by
  obtain rfl : ab_M_X2_dropLatest = M' := Option.some.inj hG
  unfold H_X2_dropLatest at hP
  split at hP
  · rename_i x0
    exact dc_pv.imp (k_X2_dropLatest (Φ := fun (t : (Int32 × dc_M)) r m' => P (dc_let t (fun q => k (some (.int q.1)) q.2)) → P (k r m')) x0 m (fun _ _ h => h) rfl) (fun r m' h => h hP)
  · exact absurd hP hz
def C_X3_clear : List (Nat × dc_H) := []
theorem CO_X3_clear {u : Nat} : dc_CO u C_X3_clear := dc_CO_nil
def S_X3_clear : List (Nat × List Nat) := []
def d_X3_clear (x0 : Nat) (m : dc_M) : dc_M :=
  (dc_wi (dc_wi (dc_wi (dc_wi m x0 0 (0 : Int32)) x0 1 (0 : Int32)) x0 2 (0 : Int32)) x0 13 (0 : Int32))
set_option maxHeartbeats 8000000 in
theorem k_X3_clear {u : Nat} {N : Nat} {Φ : dc_M → Option Value → dc_M → Prop} (x0 : Nat) (m : dc_M) (kR : ∀  (m : dc_M), Φ (m) (none) m)  {lv : ab_L} (f0 : ab_lk lv 0 = some (.ref x0)) : dc_pv u N ab_M_X3_clear 0 lv [] m (Φ (d_X3_clear x0 m)) := by
  refine dc_pv.mono (dc_ok (C := C_X3_clear) (S := S_X3_clear) CO_X3_clear 400 0 [(0, .ref x0)] lv [] m (dc_sub_cons f0 (dc_sub_nil)) ?_) (Nat.le_succ N)
  unfold d_X3_clear
  refine dg_s (pc' := 1) [.ref x0] rfl (fun _ => rfl) rfl ?_
  refine dg_s (pc' := 2) [.int (0 : Int32), .ref x0] rfl (fun _ => rfl) rfl ?_
  refine dg_m (pc' := 5) (dc_wi m x0 0 (0 : Int32)) [] rfl (fun _ => rfl) rfl ?_
  refine dg_s (pc' := 6) [.ref x0] rfl (fun _ => rfl) rfl ?_
  refine dg_s (pc' := 7) [.int (0 : Int32), .ref x0] rfl (fun _ => rfl) rfl ?_
  refine dg_m (pc' := 10) (dc_wi (dc_wi m x0 0 (0 : Int32)) x0 1 (0 : Int32)) [] rfl (fun _ => rfl) rfl ?_
  refine dg_s (pc' := 11) [.ref x0] rfl (fun _ => rfl) rfl ?_
  refine dg_s (pc' := 12) [.int (0 : Int32), .ref x0] rfl (fun _ => rfl) rfl ?_
  refine dg_m (pc' := 15) (dc_wi (dc_wi (dc_wi m x0 0 (0 : Int32)) x0 1 (0 : Int32)) x0 2 (0 : Int32)) [] rfl (fun _ => rfl) rfl ?_
  refine dg_s (pc' := 16) [.ref x0] rfl (fun _ => rfl) rfl ?_
  refine dg_s (pc' := 17) [.int (0 : Int32), .ref x0] rfl (fun _ => rfl) rfl ?_
  refine dg_m (pc' := 20) (dc_wi (dc_wi (dc_wi (dc_wi m x0 0 (0 : Int32)) x0 1 (0 : Int32)) x0 2 (0 : Int32)) x0 13 (0 : Int32)) [] rfl (fun _ => rfl) rfl ?_
  exact dw_r (some (.inl (none, (dc_wi (dc_wi (dc_wi (dc_wi m x0 0 (0 : Int32)) x0 1 (0 : Int32)) x0 2 (0 : Int32)) x0 13 (0 : Int32))))) rfl (fun _ => rfl) (kR _)
def H_X3_clear : dc_H := fun As m k => match As with
  | [.ref x0] => dc_let (d_X3_clear x0 m) (fun q => k (none) q)
  | _ => dc_kz
theorem H_X3_clear_ok {u : Nat} : dc_cok u 23 H_X3_clear := fun M' hG N As m k P hz hP => by
  obtain rfl : ab_M_X3_clear = M' := Option.some.inj hG
  unfold H_X3_clear at hP
  split at hP
  · rename_i x0
    exact dc_pv.imp (k_X3_clear (Φ := fun (t : dc_M) r m' => P (dc_let t (fun q => k (none) q)) → P (k r m')) x0 m (fun _ h => h) rfl) (fun r m' h => h hP)
  · exact absurd hP hz
def C_X3_copyFrom : List (Nat × dc_H) := []
theorem CO_X3_copyFrom {u : Nat} : dc_CO u C_X3_copyFrom := dc_CO_nil
def S_X3_copyFrom : List (Nat × List Nat) := []
def d_X3_copyFrom (x0 : Nat) (x1 : Nat) (m : dc_M) : dc_M :=
  (dc_cp (dc_cp (dc_cp (dc_cp (dc_cp (dc_cp (dc_cp (dc_cp (dc_cp (dc_cp (dc_wi (dc_wi (dc_wi (dc_wi m x0 0 (m.1 x1 0)) x0 1 ((dc_wi m x0 0 (m.1 x1 0)).1 x1 1)) x0 2 ((dc_wi (dc_wi m x0 0 (m.1 x1 0)) x0 1 ((dc_wi m x0 0 (m.1 x1 0)).1 x1 1)).1 x1 2)) x0 13 ((dc_wi (dc_wi (dc_wi m x0 0 (m.1 x1 0)) x0 1 ((dc_wi m x0 0 (m.1 x1 0)).1 x1 1)) x0 2 ((dc_wi (dc_wi m x0 0 (m.1 x1 0)) x0 1 ((dc_wi m x0 0 (m.1 x1 0)).1 x1 1)).1 x1 2)).1 x1 13)) (x1 + 1) (Int32.toNatClampNeg (0 : Int32)) (x0 + 1) (Int32.toNatClampNeg (0 : Int32)) (Int32.toNatClampNeg (6 : Int32))) (x1 + 2) (Int32.toNatClampNeg (0 : Int32)) (x0 + 2) (Int32.toNatClampNeg (0 : Int32)) (Int32.toNatClampNeg (6 : Int32))) (x1 + 3) (Int32.toNatClampNeg (0 : Int32)) (x0 + 3) (Int32.toNatClampNeg (0 : Int32)) (Int32.toNatClampNeg (16 : Int32))) (x1 + 4) (Int32.toNatClampNeg (0 : Int32)) (x0 + 4) (Int32.toNatClampNeg (0 : Int32)) (Int32.toNatClampNeg (16 : Int32))) (x1 + 5) (Int32.toNatClampNeg (0 : Int32)) (x0 + 5) (Int32.toNatClampNeg (0 : Int32)) (Int32.toNatClampNeg (16 : Int32))) (x1 + 6) (Int32.toNatClampNeg (0 : Int32)) (x0 + 6) (Int32.toNatClampNeg (0 : Int32)) (Int32.toNatClampNeg (16 : Int32))) (x1 + 7) (Int32.toNatClampNeg (0 : Int32)) (x0 + 7) (Int32.toNatClampNeg (0 : Int32)) (Int32.toNatClampNeg (16 : Int32))) (x1 + 8) (Int32.toNatClampNeg (0 : Int32)) (x0 + 8) (Int32.toNatClampNeg (0 : Int32)) (Int32.toNatClampNeg (16 : Int32))) (x1 + 9) (Int32.toNatClampNeg (0 : Int32)) (x0 + 9) (Int32.toNatClampNeg (0 : Int32)) (Int32.toNatClampNeg (20 : Int32))) (x1 + 10) (Int32.toNatClampNeg (0 : Int32)) (x0 + 10) (Int32.toNatClampNeg (0 : Int32)) (Int32.toNatClampNeg (20 : Int32)))
set_option maxHeartbeats 8000000 in
theorem k_X3_copyFrom {u : Nat} {N : Nat} {Φ : dc_M → Option Value → dc_M → Prop} (x0 : Nat) (x1 : Nat) (m : dc_M) (kR : ∀  (m : dc_M), Φ (m) (none) m)  {lv : ab_L} (f0 : ab_lk lv 0 = some (.ref x0)) (f1 : ab_lk lv 1 = some (.ref x1)) : dc_pv u N ab_M_X3_copyFrom 0 lv [] m (Φ (d_X3_copyFrom x0 x1 m)) := by
  refine dc_pv.mono (dc_ok (C := C_X3_copyFrom) (S := S_X3_copyFrom) CO_X3_copyFrom 400 0 [(0, .ref x0), (1, .ref x1)] lv [] m (dc_sub_cons f0 (dc_sub_cons f1 (dc_sub_nil))) ?_) (Nat.le_succ N)
  unfold d_X3_copyFrom
  refine dg_s (pc' := 1) [.ref x0] rfl (fun _ => rfl) rfl ?_
  refine dg_s (pc' := 2) [.ref x1, .ref x0] rfl (fun _ => rfl) rfl ?_
  refine dg_s (pc' := 5) [.int (m.1 x1 0), .ref x0] rfl (fun _ => rfl) rfl ?_
  refine dg_m (pc' := 8) (dc_wi m x0 0 (m.1 x1 0)) [] rfl (fun _ => rfl) rfl ?_
  refine dg_s (pc' := 9) [.ref x0] rfl (fun _ => rfl) rfl ?_
  refine dg_s (pc' := 10) [.ref x1, .ref x0] rfl (fun _ => rfl) rfl ?_
  refine dg_s (pc' := 13) [.int ((dc_wi m x0 0 (m.1 x1 0)).1 x1 1), .ref x0] rfl (fun _ => rfl) rfl ?_
  refine dg_m (pc' := 16) (dc_wi (dc_wi m x0 0 (m.1 x1 0)) x0 1 ((dc_wi m x0 0 (m.1 x1 0)).1 x1 1)) [] rfl (fun _ => rfl) rfl ?_
  refine dg_s (pc' := 17) [.ref x0] rfl (fun _ => rfl) rfl ?_
  refine dg_s (pc' := 18) [.ref x1, .ref x0] rfl (fun _ => rfl) rfl ?_
  refine dg_s (pc' := 21) [.int ((dc_wi (dc_wi m x0 0 (m.1 x1 0)) x0 1 ((dc_wi m x0 0 (m.1 x1 0)).1 x1 1)).1 x1 2), .ref x0] rfl (fun _ => rfl) rfl ?_
  refine dg_m (pc' := 24) (dc_wi (dc_wi (dc_wi m x0 0 (m.1 x1 0)) x0 1 ((dc_wi m x0 0 (m.1 x1 0)).1 x1 1)) x0 2 ((dc_wi (dc_wi m x0 0 (m.1 x1 0)) x0 1 ((dc_wi m x0 0 (m.1 x1 0)).1 x1 1)).1 x1 2)) [] rfl (fun _ => rfl) rfl ?_
  refine dg_s (pc' := 25) [.ref x0] rfl (fun _ => rfl) rfl ?_
  refine dg_s (pc' := 26) [.ref x1, .ref x0] rfl (fun _ => rfl) rfl ?_
  refine dg_s (pc' := 29) [.int ((dc_wi (dc_wi (dc_wi m x0 0 (m.1 x1 0)) x0 1 ((dc_wi m x0 0 (m.1 x1 0)).1 x1 1)) x0 2 ((dc_wi (dc_wi m x0 0 (m.1 x1 0)) x0 1 ((dc_wi m x0 0 (m.1 x1 0)).1 x1 1)).1 x1 2)).1 x1 13), .ref x0] rfl (fun _ => rfl) rfl ?_
  refine dg_m (pc' := 32) (dc_wi (dc_wi (dc_wi (dc_wi m x0 0 (m.1 x1 0)) x0 1 ((dc_wi m x0 0 (m.1 x1 0)).1 x1 1)) x0 2 ((dc_wi (dc_wi m x0 0 (m.1 x1 0)) x0 1 ((dc_wi m x0 0 (m.1 x1 0)).1 x1 1)).1 x1 2)) x0 13 ((dc_wi (dc_wi (dc_wi m x0 0 (m.1 x1 0)) x0 1 ((dc_wi m x0 0 (m.1 x1 0)).1 x1 1)) x0 2 ((dc_wi (dc_wi m x0 0 (m.1 x1 0)) x0 1 ((dc_wi m x0 0 (m.1 x1 0)).1 x1 1)).1 x1 2)).1 x1 13)) [] rfl (fun _ => rfl) rfl ?_
  refine dg_s (pc' := 33) [.ref x1] rfl (fun _ => rfl) rfl ?_
  refine dg_s (pc' := 36) [.ref (x1 + 1)] rfl (fun _ => rfl) rfl ?_
  refine dg_s (pc' := 37) [.int (0 : Int32), .ref (x1 + 1)] rfl (fun _ => rfl) rfl ?_
  refine dg_s (pc' := 38) [.ref x0, .int (0 : Int32), .ref (x1 + 1)] rfl (fun _ => rfl) rfl ?_
  refine dg_s (pc' := 41) [.ref (x0 + 1), .int (0 : Int32), .ref (x1 + 1)] rfl (fun _ => rfl) rfl ?_
  refine dg_s (pc' := 42) [.int (0 : Int32), .ref (x0 + 1), .int (0 : Int32), .ref (x1 + 1)] rfl (fun _ => rfl) rfl ?_
  refine dg_s (pc' := 44) [.int (6 : Int32), .int (0 : Int32), .ref (x0 + 1), .int (0 : Int32), .ref (x1 + 1)] rfl (fun _ => rfl) rfl ?_
  refine dg_m (pc' := 47) (dc_cp (dc_wi (dc_wi (dc_wi (dc_wi m x0 0 (m.1 x1 0)) x0 1 ((dc_wi m x0 0 (m.1 x1 0)).1 x1 1)) x0 2 ((dc_wi (dc_wi m x0 0 (m.1 x1 0)) x0 1 ((dc_wi m x0 0 (m.1 x1 0)).1 x1 1)).1 x1 2)) x0 13 ((dc_wi (dc_wi (dc_wi m x0 0 (m.1 x1 0)) x0 1 ((dc_wi m x0 0 (m.1 x1 0)).1 x1 1)) x0 2 ((dc_wi (dc_wi m x0 0 (m.1 x1 0)) x0 1 ((dc_wi m x0 0 (m.1 x1 0)).1 x1 1)).1 x1 2)).1 x1 13)) (x1 + 1) (Int32.toNatClampNeg (0 : Int32)) (x0 + 1) (Int32.toNatClampNeg (0 : Int32)) (Int32.toNatClampNeg (6 : Int32))) [] rfl (fun _ => rfl) rfl ?_
  refine dg_s (pc' := 48) [.ref x1] rfl (fun _ => rfl) rfl ?_
  refine dg_s (pc' := 51) [.ref (x1 + 2)] rfl (fun _ => rfl) rfl ?_
  refine dg_s (pc' := 52) [.int (0 : Int32), .ref (x1 + 2)] rfl (fun _ => rfl) rfl ?_
  refine dg_s (pc' := 53) [.ref x0, .int (0 : Int32), .ref (x1 + 2)] rfl (fun _ => rfl) rfl ?_
  refine dg_s (pc' := 56) [.ref (x0 + 2), .int (0 : Int32), .ref (x1 + 2)] rfl (fun _ => rfl) rfl ?_
  refine dg_s (pc' := 57) [.int (0 : Int32), .ref (x0 + 2), .int (0 : Int32), .ref (x1 + 2)] rfl (fun _ => rfl) rfl ?_
  refine dg_s (pc' := 59) [.int (6 : Int32), .int (0 : Int32), .ref (x0 + 2), .int (0 : Int32), .ref (x1 + 2)] rfl (fun _ => rfl) rfl ?_
  refine dg_m (pc' := 62) (dc_cp (dc_cp (dc_wi (dc_wi (dc_wi (dc_wi m x0 0 (m.1 x1 0)) x0 1 ((dc_wi m x0 0 (m.1 x1 0)).1 x1 1)) x0 2 ((dc_wi (dc_wi m x0 0 (m.1 x1 0)) x0 1 ((dc_wi m x0 0 (m.1 x1 0)).1 x1 1)).1 x1 2)) x0 13 ((dc_wi (dc_wi (dc_wi m x0 0 (m.1 x1 0)) x0 1 ((dc_wi m x0 0 (m.1 x1 0)).1 x1 1)) x0 2 ((dc_wi (dc_wi m x0 0 (m.1 x1 0)) x0 1 ((dc_wi m x0 0 (m.1 x1 0)).1 x1 1)).1 x1 2)).1 x1 13)) (x1 + 1) (Int32.toNatClampNeg (0 : Int32)) (x0 + 1) (Int32.toNatClampNeg (0 : Int32)) (Int32.toNatClampNeg (6 : Int32))) (x1 + 2) (Int32.toNatClampNeg (0 : Int32)) (x0 + 2) (Int32.toNatClampNeg (0 : Int32)) (Int32.toNatClampNeg (6 : Int32))) [] rfl (fun _ => rfl) rfl ?_
  refine dg_s (pc' := 63) [.ref x1] rfl (fun _ => rfl) rfl ?_
  refine dg_s (pc' := 66) [.ref (x1 + 3)] rfl (fun _ => rfl) rfl ?_
  refine dg_s (pc' := 67) [.int (0 : Int32), .ref (x1 + 3)] rfl (fun _ => rfl) rfl ?_
  refine dg_s (pc' := 68) [.ref x0, .int (0 : Int32), .ref (x1 + 3)] rfl (fun _ => rfl) rfl ?_
  refine dg_s (pc' := 71) [.ref (x0 + 3), .int (0 : Int32), .ref (x1 + 3)] rfl (fun _ => rfl) rfl ?_
  refine dg_s (pc' := 72) [.int (0 : Int32), .ref (x0 + 3), .int (0 : Int32), .ref (x1 + 3)] rfl (fun _ => rfl) rfl ?_
  refine dg_s (pc' := 74) [.int (16 : Int32), .int (0 : Int32), .ref (x0 + 3), .int (0 : Int32), .ref (x1 + 3)] rfl (fun _ => rfl) rfl ?_
  refine dg_m (pc' := 77) (dc_cp (dc_cp (dc_cp (dc_wi (dc_wi (dc_wi (dc_wi m x0 0 (m.1 x1 0)) x0 1 ((dc_wi m x0 0 (m.1 x1 0)).1 x1 1)) x0 2 ((dc_wi (dc_wi m x0 0 (m.1 x1 0)) x0 1 ((dc_wi m x0 0 (m.1 x1 0)).1 x1 1)).1 x1 2)) x0 13 ((dc_wi (dc_wi (dc_wi m x0 0 (m.1 x1 0)) x0 1 ((dc_wi m x0 0 (m.1 x1 0)).1 x1 1)) x0 2 ((dc_wi (dc_wi m x0 0 (m.1 x1 0)) x0 1 ((dc_wi m x0 0 (m.1 x1 0)).1 x1 1)).1 x1 2)).1 x1 13)) (x1 + 1) (Int32.toNatClampNeg (0 : Int32)) (x0 + 1) (Int32.toNatClampNeg (0 : Int32)) (Int32.toNatClampNeg (6 : Int32))) (x1 + 2) (Int32.toNatClampNeg (0 : Int32)) (x0 + 2) (Int32.toNatClampNeg (0 : Int32)) (Int32.toNatClampNeg (6 : Int32))) (x1 + 3) (Int32.toNatClampNeg (0 : Int32)) (x0 + 3) (Int32.toNatClampNeg (0 : Int32)) (Int32.toNatClampNeg (16 : Int32))) [] rfl (fun _ => rfl) rfl ?_
  refine dg_s (pc' := 78) [.ref x1] rfl (fun _ => rfl) rfl ?_
  refine dg_s (pc' := 81) [.ref (x1 + 4)] rfl (fun _ => rfl) rfl ?_
  refine dg_s (pc' := 82) [.int (0 : Int32), .ref (x1 + 4)] rfl (fun _ => rfl) rfl ?_
  refine dg_s (pc' := 83) [.ref x0, .int (0 : Int32), .ref (x1 + 4)] rfl (fun _ => rfl) rfl ?_
  refine dg_s (pc' := 86) [.ref (x0 + 4), .int (0 : Int32), .ref (x1 + 4)] rfl (fun _ => rfl) rfl ?_
  refine dg_s (pc' := 87) [.int (0 : Int32), .ref (x0 + 4), .int (0 : Int32), .ref (x1 + 4)] rfl (fun _ => rfl) rfl ?_
  refine dg_s (pc' := 89) [.int (16 : Int32), .int (0 : Int32), .ref (x0 + 4), .int (0 : Int32), .ref (x1 + 4)] rfl (fun _ => rfl) rfl ?_
  refine dg_m (pc' := 92) (dc_cp (dc_cp (dc_cp (dc_cp (dc_wi (dc_wi (dc_wi (dc_wi m x0 0 (m.1 x1 0)) x0 1 ((dc_wi m x0 0 (m.1 x1 0)).1 x1 1)) x0 2 ((dc_wi (dc_wi m x0 0 (m.1 x1 0)) x0 1 ((dc_wi m x0 0 (m.1 x1 0)).1 x1 1)).1 x1 2)) x0 13 ((dc_wi (dc_wi (dc_wi m x0 0 (m.1 x1 0)) x0 1 ((dc_wi m x0 0 (m.1 x1 0)).1 x1 1)) x0 2 ((dc_wi (dc_wi m x0 0 (m.1 x1 0)) x0 1 ((dc_wi m x0 0 (m.1 x1 0)).1 x1 1)).1 x1 2)).1 x1 13)) (x1 + 1) (Int32.toNatClampNeg (0 : Int32)) (x0 + 1) (Int32.toNatClampNeg (0 : Int32)) (Int32.toNatClampNeg (6 : Int32))) (x1 + 2) (Int32.toNatClampNeg (0 : Int32)) (x0 + 2) (Int32.toNatClampNeg (0 : Int32)) (Int32.toNatClampNeg (6 : Int32))) (x1 + 3) (Int32.toNatClampNeg (0 : Int32)) (x0 + 3) (Int32.toNatClampNeg (0 : Int32)) (Int32.toNatClampNeg (16 : Int32))) (x1 + 4) (Int32.toNatClampNeg (0 : Int32)) (x0 + 4) (Int32.toNatClampNeg (0 : Int32)) (Int32.toNatClampNeg (16 : Int32))) [] rfl (fun _ => rfl) rfl ?_
  refine dg_s (pc' := 93) [.ref x1] rfl (fun _ => rfl) rfl ?_
  refine dg_s (pc' := 96) [.ref (x1 + 5)] rfl (fun _ => rfl) rfl ?_
  refine dg_s (pc' := 97) [.int (0 : Int32), .ref (x1 + 5)] rfl (fun _ => rfl) rfl ?_
  refine dg_s (pc' := 98) [.ref x0, .int (0 : Int32), .ref (x1 + 5)] rfl (fun _ => rfl) rfl ?_
  refine dg_s (pc' := 101) [.ref (x0 + 5), .int (0 : Int32), .ref (x1 + 5)] rfl (fun _ => rfl) rfl ?_
  refine dg_s (pc' := 102) [.int (0 : Int32), .ref (x0 + 5), .int (0 : Int32), .ref (x1 + 5)] rfl (fun _ => rfl) rfl ?_
  refine dg_s (pc' := 104) [.int (16 : Int32), .int (0 : Int32), .ref (x0 + 5), .int (0 : Int32), .ref (x1 + 5)] rfl (fun _ => rfl) rfl ?_
  refine dg_m (pc' := 107) (dc_cp (dc_cp (dc_cp (dc_cp (dc_cp (dc_wi (dc_wi (dc_wi (dc_wi m x0 0 (m.1 x1 0)) x0 1 ((dc_wi m x0 0 (m.1 x1 0)).1 x1 1)) x0 2 ((dc_wi (dc_wi m x0 0 (m.1 x1 0)) x0 1 ((dc_wi m x0 0 (m.1 x1 0)).1 x1 1)).1 x1 2)) x0 13 ((dc_wi (dc_wi (dc_wi m x0 0 (m.1 x1 0)) x0 1 ((dc_wi m x0 0 (m.1 x1 0)).1 x1 1)) x0 2 ((dc_wi (dc_wi m x0 0 (m.1 x1 0)) x0 1 ((dc_wi m x0 0 (m.1 x1 0)).1 x1 1)).1 x1 2)).1 x1 13)) (x1 + 1) (Int32.toNatClampNeg (0 : Int32)) (x0 + 1) (Int32.toNatClampNeg (0 : Int32)) (Int32.toNatClampNeg (6 : Int32))) (x1 + 2) (Int32.toNatClampNeg (0 : Int32)) (x0 + 2) (Int32.toNatClampNeg (0 : Int32)) (Int32.toNatClampNeg (6 : Int32))) (x1 + 3) (Int32.toNatClampNeg (0 : Int32)) (x0 + 3) (Int32.toNatClampNeg (0 : Int32)) (Int32.toNatClampNeg (16 : Int32))) (x1 + 4) (Int32.toNatClampNeg (0 : Int32)) (x0 + 4) (Int32.toNatClampNeg (0 : Int32)) (Int32.toNatClampNeg (16 : Int32))) (x1 + 5) (Int32.toNatClampNeg (0 : Int32)) (x0 + 5) (Int32.toNatClampNeg (0 : Int32)) (Int32.toNatClampNeg (16 : Int32))) [] rfl (fun _ => rfl) rfl ?_
  refine dg_s (pc' := 108) [.ref x1] rfl (fun _ => rfl) rfl ?_
  refine dg_s (pc' := 111) [.ref (x1 + 6)] rfl (fun _ => rfl) rfl ?_
  refine dg_s (pc' := 112) [.int (0 : Int32), .ref (x1 + 6)] rfl (fun _ => rfl) rfl ?_
  refine dg_s (pc' := 113) [.ref x0, .int (0 : Int32), .ref (x1 + 6)] rfl (fun _ => rfl) rfl ?_
  refine dg_s (pc' := 116) [.ref (x0 + 6), .int (0 : Int32), .ref (x1 + 6)] rfl (fun _ => rfl) rfl ?_
  refine dg_s (pc' := 117) [.int (0 : Int32), .ref (x0 + 6), .int (0 : Int32), .ref (x1 + 6)] rfl (fun _ => rfl) rfl ?_
  refine dg_s (pc' := 119) [.int (16 : Int32), .int (0 : Int32), .ref (x0 + 6), .int (0 : Int32), .ref (x1 + 6)] rfl (fun _ => rfl) rfl ?_
  refine dg_m (pc' := 122) (dc_cp (dc_cp (dc_cp (dc_cp (dc_cp (dc_cp (dc_wi (dc_wi (dc_wi (dc_wi m x0 0 (m.1 x1 0)) x0 1 ((dc_wi m x0 0 (m.1 x1 0)).1 x1 1)) x0 2 ((dc_wi (dc_wi m x0 0 (m.1 x1 0)) x0 1 ((dc_wi m x0 0 (m.1 x1 0)).1 x1 1)).1 x1 2)) x0 13 ((dc_wi (dc_wi (dc_wi m x0 0 (m.1 x1 0)) x0 1 ((dc_wi m x0 0 (m.1 x1 0)).1 x1 1)) x0 2 ((dc_wi (dc_wi m x0 0 (m.1 x1 0)) x0 1 ((dc_wi m x0 0 (m.1 x1 0)).1 x1 1)).1 x1 2)).1 x1 13)) (x1 + 1) (Int32.toNatClampNeg (0 : Int32)) (x0 + 1) (Int32.toNatClampNeg (0 : Int32)) (Int32.toNatClampNeg (6 : Int32))) (x1 + 2) (Int32.toNatClampNeg (0 : Int32)) (x0 + 2) (Int32.toNatClampNeg (0 : Int32)) (Int32.toNatClampNeg (6 : Int32))) (x1 + 3) (Int32.toNatClampNeg (0 : Int32)) (x0 + 3) (Int32.toNatClampNeg (0 : Int32)) (Int32.toNatClampNeg (16 : Int32))) (x1 + 4) (Int32.toNatClampNeg (0 : Int32)) (x0 + 4) (Int32.toNatClampNeg (0 : Int32)) (Int32.toNatClampNeg (16 : Int32))) (x1 + 5) (Int32.toNatClampNeg (0 : Int32)) (x0 + 5) (Int32.toNatClampNeg (0 : Int32)) (Int32.toNatClampNeg (16 : Int32))) (x1 + 6) (Int32.toNatClampNeg (0 : Int32)) (x0 + 6) (Int32.toNatClampNeg (0 : Int32)) (Int32.toNatClampNeg (16 : Int32))) [] rfl (fun _ => rfl) rfl ?_
  refine dg_s (pc' := 123) [.ref x1] rfl (fun _ => rfl) rfl ?_
  refine dg_s (pc' := 126) [.ref (x1 + 7)] rfl (fun _ => rfl) rfl ?_
  refine dg_s (pc' := 127) [.int (0 : Int32), .ref (x1 + 7)] rfl (fun _ => rfl) rfl ?_
  refine dg_s (pc' := 128) [.ref x0, .int (0 : Int32), .ref (x1 + 7)] rfl (fun _ => rfl) rfl ?_
  refine dg_s (pc' := 131) [.ref (x0 + 7), .int (0 : Int32), .ref (x1 + 7)] rfl (fun _ => rfl) rfl ?_
  refine dg_s (pc' := 132) [.int (0 : Int32), .ref (x0 + 7), .int (0 : Int32), .ref (x1 + 7)] rfl (fun _ => rfl) rfl ?_
  refine dg_s (pc' := 134) [.int (16 : Int32), .int (0 : Int32), .ref (x0 + 7), .int (0 : Int32), .ref (x1 + 7)] rfl (fun _ => rfl) rfl ?_
  refine dg_m (pc' := 137) (dc_cp (dc_cp (dc_cp (dc_cp (dc_cp (dc_cp (dc_cp (dc_wi (dc_wi (dc_wi (dc_wi m x0 0 (m.1 x1 0)) x0 1 ((dc_wi m x0 0 (m.1 x1 0)).1 x1 1)) x0 2 ((dc_wi (dc_wi m x0 0 (m.1 x1 0)) x0 1 ((dc_wi m x0 0 (m.1 x1 0)).1 x1 1)).1 x1 2)) x0 13 ((dc_wi (dc_wi (dc_wi m x0 0 (m.1 x1 0)) x0 1 ((dc_wi m x0 0 (m.1 x1 0)).1 x1 1)) x0 2 ((dc_wi (dc_wi m x0 0 (m.1 x1 0)) x0 1 ((dc_wi m x0 0 (m.1 x1 0)).1 x1 1)).1 x1 2)).1 x1 13)) (x1 + 1) (Int32.toNatClampNeg (0 : Int32)) (x0 + 1) (Int32.toNatClampNeg (0 : Int32)) (Int32.toNatClampNeg (6 : Int32))) (x1 + 2) (Int32.toNatClampNeg (0 : Int32)) (x0 + 2) (Int32.toNatClampNeg (0 : Int32)) (Int32.toNatClampNeg (6 : Int32))) (x1 + 3) (Int32.toNatClampNeg (0 : Int32)) (x0 + 3) (Int32.toNatClampNeg (0 : Int32)) (Int32.toNatClampNeg (16 : Int32))) (x1 + 4) (Int32.toNatClampNeg (0 : Int32)) (x0 + 4) (Int32.toNatClampNeg (0 : Int32)) (Int32.toNatClampNeg (16 : Int32))) (x1 + 5) (Int32.toNatClampNeg (0 : Int32)) (x0 + 5) (Int32.toNatClampNeg (0 : Int32)) (Int32.toNatClampNeg (16 : Int32))) (x1 + 6) (Int32.toNatClampNeg (0 : Int32)) (x0 + 6) (Int32.toNatClampNeg (0 : Int32)) (Int32.toNatClampNeg (16 : Int32))) (x1 + 7) (Int32.toNatClampNeg (0 : Int32)) (x0 + 7) (Int32.toNatClampNeg (0 : Int32)) (Int32.toNatClampNeg (16 : Int32))) [] rfl (fun _ => rfl) rfl ?_
  refine dg_s (pc' := 138) [.ref x1] rfl (fun _ => rfl) rfl ?_
  refine dg_s (pc' := 141) [.ref (x1 + 8)] rfl (fun _ => rfl) rfl ?_
  refine dg_s (pc' := 142) [.int (0 : Int32), .ref (x1 + 8)] rfl (fun _ => rfl) rfl ?_
  refine dg_s (pc' := 143) [.ref x0, .int (0 : Int32), .ref (x1 + 8)] rfl (fun _ => rfl) rfl ?_
  refine dg_s (pc' := 146) [.ref (x0 + 8), .int (0 : Int32), .ref (x1 + 8)] rfl (fun _ => rfl) rfl ?_
  refine dg_s (pc' := 147) [.int (0 : Int32), .ref (x0 + 8), .int (0 : Int32), .ref (x1 + 8)] rfl (fun _ => rfl) rfl ?_
  refine dg_s (pc' := 149) [.int (16 : Int32), .int (0 : Int32), .ref (x0 + 8), .int (0 : Int32), .ref (x1 + 8)] rfl (fun _ => rfl) rfl ?_
  refine dg_m (pc' := 152) (dc_cp (dc_cp (dc_cp (dc_cp (dc_cp (dc_cp (dc_cp (dc_cp (dc_wi (dc_wi (dc_wi (dc_wi m x0 0 (m.1 x1 0)) x0 1 ((dc_wi m x0 0 (m.1 x1 0)).1 x1 1)) x0 2 ((dc_wi (dc_wi m x0 0 (m.1 x1 0)) x0 1 ((dc_wi m x0 0 (m.1 x1 0)).1 x1 1)).1 x1 2)) x0 13 ((dc_wi (dc_wi (dc_wi m x0 0 (m.1 x1 0)) x0 1 ((dc_wi m x0 0 (m.1 x1 0)).1 x1 1)) x0 2 ((dc_wi (dc_wi m x0 0 (m.1 x1 0)) x0 1 ((dc_wi m x0 0 (m.1 x1 0)).1 x1 1)).1 x1 2)).1 x1 13)) (x1 + 1) (Int32.toNatClampNeg (0 : Int32)) (x0 + 1) (Int32.toNatClampNeg (0 : Int32)) (Int32.toNatClampNeg (6 : Int32))) (x1 + 2) (Int32.toNatClampNeg (0 : Int32)) (x0 + 2) (Int32.toNatClampNeg (0 : Int32)) (Int32.toNatClampNeg (6 : Int32))) (x1 + 3) (Int32.toNatClampNeg (0 : Int32)) (x0 + 3) (Int32.toNatClampNeg (0 : Int32)) (Int32.toNatClampNeg (16 : Int32))) (x1 + 4) (Int32.toNatClampNeg (0 : Int32)) (x0 + 4) (Int32.toNatClampNeg (0 : Int32)) (Int32.toNatClampNeg (16 : Int32))) (x1 + 5) (Int32.toNatClampNeg (0 : Int32)) (x0 + 5) (Int32.toNatClampNeg (0 : Int32)) (Int32.toNatClampNeg (16 : Int32))) (x1 + 6) (Int32.toNatClampNeg (0 : Int32)) (x0 + 6) (Int32.toNatClampNeg (0 : Int32)) (Int32.toNatClampNeg (16 : Int32))) (x1 + 7) (Int32.toNatClampNeg (0 : Int32)) (x0 + 7) (Int32.toNatClampNeg (0 : Int32)) (Int32.toNatClampNeg (16 : Int32))) (x1 + 8) (Int32.toNatClampNeg (0 : Int32)) (x0 + 8) (Int32.toNatClampNeg (0 : Int32)) (Int32.toNatClampNeg (16 : Int32))) [] rfl (fun _ => rfl) rfl ?_
  refine dg_s (pc' := 153) [.ref x1] rfl (fun _ => rfl) rfl ?_
  refine dg_s (pc' := 156) [.ref (x1 + 9)] rfl (fun _ => rfl) rfl ?_
  refine dg_s (pc' := 157) [.int (0 : Int32), .ref (x1 + 9)] rfl (fun _ => rfl) rfl ?_
  refine dg_s (pc' := 158) [.ref x0, .int (0 : Int32), .ref (x1 + 9)] rfl (fun _ => rfl) rfl ?_
  refine dg_s (pc' := 161) [.ref (x0 + 9), .int (0 : Int32), .ref (x1 + 9)] rfl (fun _ => rfl) rfl ?_
  refine dg_s (pc' := 162) [.int (0 : Int32), .ref (x0 + 9), .int (0 : Int32), .ref (x1 + 9)] rfl (fun _ => rfl) rfl ?_
  refine dg_s (pc' := 164) [.int (20 : Int32), .int (0 : Int32), .ref (x0 + 9), .int (0 : Int32), .ref (x1 + 9)] rfl (fun _ => rfl) rfl ?_
  refine dg_m (pc' := 167) (dc_cp (dc_cp (dc_cp (dc_cp (dc_cp (dc_cp (dc_cp (dc_cp (dc_cp (dc_wi (dc_wi (dc_wi (dc_wi m x0 0 (m.1 x1 0)) x0 1 ((dc_wi m x0 0 (m.1 x1 0)).1 x1 1)) x0 2 ((dc_wi (dc_wi m x0 0 (m.1 x1 0)) x0 1 ((dc_wi m x0 0 (m.1 x1 0)).1 x1 1)).1 x1 2)) x0 13 ((dc_wi (dc_wi (dc_wi m x0 0 (m.1 x1 0)) x0 1 ((dc_wi m x0 0 (m.1 x1 0)).1 x1 1)) x0 2 ((dc_wi (dc_wi m x0 0 (m.1 x1 0)) x0 1 ((dc_wi m x0 0 (m.1 x1 0)).1 x1 1)).1 x1 2)).1 x1 13)) (x1 + 1) (Int32.toNatClampNeg (0 : Int32)) (x0 + 1) (Int32.toNatClampNeg (0 : Int32)) (Int32.toNatClampNeg (6 : Int32))) (x1 + 2) (Int32.toNatClampNeg (0 : Int32)) (x0 + 2) (Int32.toNatClampNeg (0 : Int32)) (Int32.toNatClampNeg (6 : Int32))) (x1 + 3) (Int32.toNatClampNeg (0 : Int32)) (x0 + 3) (Int32.toNatClampNeg (0 : Int32)) (Int32.toNatClampNeg (16 : Int32))) (x1 + 4) (Int32.toNatClampNeg (0 : Int32)) (x0 + 4) (Int32.toNatClampNeg (0 : Int32)) (Int32.toNatClampNeg (16 : Int32))) (x1 + 5) (Int32.toNatClampNeg (0 : Int32)) (x0 + 5) (Int32.toNatClampNeg (0 : Int32)) (Int32.toNatClampNeg (16 : Int32))) (x1 + 6) (Int32.toNatClampNeg (0 : Int32)) (x0 + 6) (Int32.toNatClampNeg (0 : Int32)) (Int32.toNatClampNeg (16 : Int32))) (x1 + 7) (Int32.toNatClampNeg (0 : Int32)) (x0 + 7) (Int32.toNatClampNeg (0 : Int32)) (Int32.toNatClampNeg (16 : Int32))) (x1 + 8) (Int32.toNatClampNeg (0 : Int32)) (x0 + 8) (Int32.toNatClampNeg (0 : Int32)) (Int32.toNatClampNeg (16 : Int32))) (x1 + 9) (Int32.toNatClampNeg (0 : Int32)) (x0 + 9) (Int32.toNatClampNeg (0 : Int32)) (Int32.toNatClampNeg (20 : Int32))) [] rfl (fun _ => rfl) rfl ?_
  refine dg_s (pc' := 168) [.ref x1] rfl (fun _ => rfl) rfl ?_
  refine dg_s (pc' := 171) [.ref (x1 + 10)] rfl (fun _ => rfl) rfl ?_
  refine dg_s (pc' := 172) [.int (0 : Int32), .ref (x1 + 10)] rfl (fun _ => rfl) rfl ?_
  refine dg_s (pc' := 173) [.ref x0, .int (0 : Int32), .ref (x1 + 10)] rfl (fun _ => rfl) rfl ?_
  refine dg_s (pc' := 176) [.ref (x0 + 10), .int (0 : Int32), .ref (x1 + 10)] rfl (fun _ => rfl) rfl ?_
  refine dg_s (pc' := 177) [.int (0 : Int32), .ref (x0 + 10), .int (0 : Int32), .ref (x1 + 10)] rfl (fun _ => rfl) rfl ?_
  refine dg_s (pc' := 179) [.int (20 : Int32), .int (0 : Int32), .ref (x0 + 10), .int (0 : Int32), .ref (x1 + 10)] rfl (fun _ => rfl) rfl ?_
  refine dg_m (pc' := 182) (dc_cp (dc_cp (dc_cp (dc_cp (dc_cp (dc_cp (dc_cp (dc_cp (dc_cp (dc_cp (dc_wi (dc_wi (dc_wi (dc_wi m x0 0 (m.1 x1 0)) x0 1 ((dc_wi m x0 0 (m.1 x1 0)).1 x1 1)) x0 2 ((dc_wi (dc_wi m x0 0 (m.1 x1 0)) x0 1 ((dc_wi m x0 0 (m.1 x1 0)).1 x1 1)).1 x1 2)) x0 13 ((dc_wi (dc_wi (dc_wi m x0 0 (m.1 x1 0)) x0 1 ((dc_wi m x0 0 (m.1 x1 0)).1 x1 1)) x0 2 ((dc_wi (dc_wi m x0 0 (m.1 x1 0)) x0 1 ((dc_wi m x0 0 (m.1 x1 0)).1 x1 1)).1 x1 2)).1 x1 13)) (x1 + 1) (Int32.toNatClampNeg (0 : Int32)) (x0 + 1) (Int32.toNatClampNeg (0 : Int32)) (Int32.toNatClampNeg (6 : Int32))) (x1 + 2) (Int32.toNatClampNeg (0 : Int32)) (x0 + 2) (Int32.toNatClampNeg (0 : Int32)) (Int32.toNatClampNeg (6 : Int32))) (x1 + 3) (Int32.toNatClampNeg (0 : Int32)) (x0 + 3) (Int32.toNatClampNeg (0 : Int32)) (Int32.toNatClampNeg (16 : Int32))) (x1 + 4) (Int32.toNatClampNeg (0 : Int32)) (x0 + 4) (Int32.toNatClampNeg (0 : Int32)) (Int32.toNatClampNeg (16 : Int32))) (x1 + 5) (Int32.toNatClampNeg (0 : Int32)) (x0 + 5) (Int32.toNatClampNeg (0 : Int32)) (Int32.toNatClampNeg (16 : Int32))) (x1 + 6) (Int32.toNatClampNeg (0 : Int32)) (x0 + 6) (Int32.toNatClampNeg (0 : Int32)) (Int32.toNatClampNeg (16 : Int32))) (x1 + 7) (Int32.toNatClampNeg (0 : Int32)) (x0 + 7) (Int32.toNatClampNeg (0 : Int32)) (Int32.toNatClampNeg (16 : Int32))) (x1 + 8) (Int32.toNatClampNeg (0 : Int32)) (x0 + 8) (Int32.toNatClampNeg (0 : Int32)) (Int32.toNatClampNeg (16 : Int32))) (x1 + 9) (Int32.toNatClampNeg (0 : Int32)) (x0 + 9) (Int32.toNatClampNeg (0 : Int32)) (Int32.toNatClampNeg (20 : Int32))) (x1 + 10) (Int32.toNatClampNeg (0 : Int32)) (x0 + 10) (Int32.toNatClampNeg (0 : Int32)) (Int32.toNatClampNeg (20 : Int32))) [] rfl (fun _ => rfl) rfl ?_
  exact dw_r (some (.inl (none, (dc_cp (dc_cp (dc_cp (dc_cp (dc_cp (dc_cp (dc_cp (dc_cp (dc_cp (dc_cp (dc_wi (dc_wi (dc_wi (dc_wi m x0 0 (m.1 x1 0)) x0 1 ((dc_wi m x0 0 (m.1 x1 0)).1 x1 1)) x0 2 ((dc_wi (dc_wi m x0 0 (m.1 x1 0)) x0 1 ((dc_wi m x0 0 (m.1 x1 0)).1 x1 1)).1 x1 2)) x0 13 ((dc_wi (dc_wi (dc_wi m x0 0 (m.1 x1 0)) x0 1 ((dc_wi m x0 0 (m.1 x1 0)).1 x1 1)) x0 2 ((dc_wi (dc_wi m x0 0 (m.1 x1 0)) x0 1 ((dc_wi m x0 0 (m.1 x1 0)).1 x1 1)).1 x1 2)).1 x1 13)) (x1 + 1) (Int32.toNatClampNeg (0 : Int32)) (x0 + 1) (Int32.toNatClampNeg (0 : Int32)) (Int32.toNatClampNeg (6 : Int32))) (x1 + 2) (Int32.toNatClampNeg (0 : Int32)) (x0 + 2) (Int32.toNatClampNeg (0 : Int32)) (Int32.toNatClampNeg (6 : Int32))) (x1 + 3) (Int32.toNatClampNeg (0 : Int32)) (x0 + 3) (Int32.toNatClampNeg (0 : Int32)) (Int32.toNatClampNeg (16 : Int32))) (x1 + 4) (Int32.toNatClampNeg (0 : Int32)) (x0 + 4) (Int32.toNatClampNeg (0 : Int32)) (Int32.toNatClampNeg (16 : Int32))) (x1 + 5) (Int32.toNatClampNeg (0 : Int32)) (x0 + 5) (Int32.toNatClampNeg (0 : Int32)) (Int32.toNatClampNeg (16 : Int32))) (x1 + 6) (Int32.toNatClampNeg (0 : Int32)) (x0 + 6) (Int32.toNatClampNeg (0 : Int32)) (Int32.toNatClampNeg (16 : Int32))) (x1 + 7) (Int32.toNatClampNeg (0 : Int32)) (x0 + 7) (Int32.toNatClampNeg (0 : Int32)) (Int32.toNatClampNeg (16 : Int32))) (x1 + 8) (Int32.toNatClampNeg (0 : Int32)) (x0 + 8) (Int32.toNatClampNeg (0 : Int32)) (Int32.toNatClampNeg (16 : Int32))) (x1 + 9) (Int32.toNatClampNeg (0 : Int32)) (x0 + 9) (Int32.toNatClampNeg (0 : Int32)) (Int32.toNatClampNeg (20 : Int32))) (x1 + 10) (Int32.toNatClampNeg (0 : Int32)) (x0 + 10) (Int32.toNatClampNeg (0 : Int32)) (Int32.toNatClampNeg (20 : Int32)))))) rfl (fun _ => rfl) (kR _)
def H_X3_copyFrom : dc_H := fun As m k => match As with
  | [.ref x0, .ref x1] => dc_let (d_X3_copyFrom x0 x1 m) (fun q => k (none) q)
  | _ => dc_kz
theorem H_X3_copyFrom_ok {u : Nat} : dc_cok u 24 H_X3_copyFrom := fun M' hG N As m k P hz hP => by
  obtain rfl : ab_M_X3_copyFrom = M' := Option.some.inj hG
  unfold H_X3_copyFrom at hP
  split at hP
  · rename_i x0 x1
    exact dc_pv.imp (k_X3_copyFrom (Φ := fun (t : dc_M) r m' => P (dc_let t (fun q => k (none) q)) → P (k r m')) x0 x1 m (fun _ h => h) rfl rfl) (fun r m' h => h hP)
  · exact absurd hP hz
def C_X3_hasWire : List (Nat × dc_H) := []
theorem CO_X3_hasWire {u : Nat} : dc_CO u C_X3_hasWire := dc_CO_nil
def S_X3_hasWire : List (Nat × List Nat) := []
def d_X3_hasWire (x0 : Nat) (x1 : Int32) (m : dc_M) : Int32 :=
  (if (Int32.toInt x1) < 0 then (0 : Int32) else (if (Int32.toInt (m.1 x0 0)) ≤ (Int32.toInt x1) then (0 : Int32) else (1 : Int32)))
set_option maxHeartbeats 8000000 in
theorem k_X3_hasWire {u : Nat} {N : Nat} {Φ : Int32 → Option Value → dc_M → Prop} (x0 : Nat) (x1 : Int32) (m : dc_M) (kR : ∀ (v : Int32), Φ (v) (some (.int v)) m)  {lv : ab_L} (f0 : ab_lk lv 0 = some (.ref x0)) (f1 : ab_lk lv 1 = some (.int x1)) : dc_pv u N ab_M_X3_hasWire 0 lv [] m (Φ (d_X3_hasWire x0 x1 m)) := by
  refine dc_pv.mono (dc_ok (C := C_X3_hasWire) (S := S_X3_hasWire) CO_X3_hasWire 400 0 [(0, .ref x0), (1, .int x1)] lv [] m (dc_sub_cons f0 (dc_sub_cons f1 (dc_sub_nil))) ?_) (Nat.le_succ N)
  unfold d_X3_hasWire
  refine dg_s (pc' := 1) [.int x1] rfl (fun _ => rfl) rfl ?_
  refine dw_if (fun t => Φ t) ((Int32.toInt x1) < 0) [] 16 4 rfl (fun _ => rfl) (fun c0 => ?_) (fun c0 => ?_)
  · refine dw_g rfl ?_
    refine dg_s (pc' := 17) [.int (0 : Int32)] rfl (fun _ => rfl) rfl ?_
    exact dw_r (some (.inl (some (.int (0 : Int32)), m))) rfl (fun _ => rfl) (kR _)
  · refine dw_g rfl ?_
    refine dg_s (pc' := 5) [.int x1] rfl (fun _ => rfl) rfl ?_
    refine dg_s (pc' := 6) [.ref x0, .int x1] rfl (fun _ => rfl) rfl ?_
    refine dg_s (pc' := 9) [.int (m.1 x0 0), .int x1] rfl (fun _ => rfl) rfl ?_
    refine dw_if (fun t => Φ t) ((Int32.toInt (m.1 x0 0)) ≤ (Int32.toInt x1)) [] 16 12 rfl (fun _ => rfl) (fun c1 => ?_) (fun c1 => ?_)
    · refine dw_g rfl ?_
      refine dg_s (pc' := 17) [.int (0 : Int32)] rfl (fun _ => rfl) rfl ?_
      exact dw_r (some (.inl (some (.int (0 : Int32)), m))) rfl (fun _ => rfl) (kR _)
    · refine dw_g rfl ?_
      refine dg_s (pc' := 13) [.int (1 : Int32)] rfl (fun _ => rfl) rfl ?_
      refine dg_s (pc' := 17) [.int (1 : Int32)] rfl (fun _ => rfl) rfl ?_
      exact dw_r (some (.inl (some (.int (1 : Int32)), m))) rfl (fun _ => rfl) (kR _)
def H_X3_hasWire : dc_H := fun As m k => match As with
  | [.ref x0, .int x1] => k (some (.int (d_X3_hasWire x0 x1 m))) m
  | _ => dc_kz
theorem H_X3_hasWire_ok {u : Nat} : dc_cok u 25 H_X3_hasWire := fun M' hG N As m k P hz hP => by
  obtain rfl : ab_M_X3_hasWire = M' := Option.some.inj hG
  unfold H_X3_hasWire at hP
  split at hP
  · rename_i x0 x1
    exact dc_pv.imp (k_X3_hasWire (Φ := fun (t : Int32) r m' => P (k (some (.int t)) m) → P (k r m')) x0 x1 m (fun _  h => h) rfl rfl) (fun r m' h => h hP)
  · exact absurd hP hz
def C_X3_hasEvent : List (Nat × dc_H) := []
theorem CO_X3_hasEvent {u : Nat} : dc_CO u C_X3_hasEvent := dc_CO_nil
def S_X3_hasEvent : List (Nat × List Nat) := []
def d_X3_hasEvent (x0 : Nat) (x1 : Int32) (m : dc_M) : Int32 :=
  (if (Int32.toInt x1) < 0 then (0 : Int32) else (if (Int32.toInt (m.1 x0 1)) ≤ (Int32.toInt x1) then (0 : Int32) else (1 : Int32)))
set_option maxHeartbeats 8000000 in
theorem k_X3_hasEvent {u : Nat} {N : Nat} {Φ : Int32 → Option Value → dc_M → Prop} (x0 : Nat) (x1 : Int32) (m : dc_M) (kR : ∀ (v : Int32), Φ (v) (some (.int v)) m)  {lv : ab_L} (f0 : ab_lk lv 0 = some (.ref x0)) (f1 : ab_lk lv 1 = some (.int x1)) : dc_pv u N ab_M_X3_hasEvent 0 lv [] m (Φ (d_X3_hasEvent x0 x1 m)) := by
  refine dc_pv.mono (dc_ok (C := C_X3_hasEvent) (S := S_X3_hasEvent) CO_X3_hasEvent 400 0 [(0, .ref x0), (1, .int x1)] lv [] m (dc_sub_cons f0 (dc_sub_cons f1 (dc_sub_nil))) ?_) (Nat.le_succ N)
  unfold d_X3_hasEvent
  refine dg_s (pc' := 1) [.int x1] rfl (fun _ => rfl) rfl ?_
  refine dw_if (fun t => Φ t) ((Int32.toInt x1) < 0) [] 16 4 rfl (fun _ => rfl) (fun c0 => ?_) (fun c0 => ?_)
  · refine dw_g rfl ?_
    refine dg_s (pc' := 17) [.int (0 : Int32)] rfl (fun _ => rfl) rfl ?_
    exact dw_r (some (.inl (some (.int (0 : Int32)), m))) rfl (fun _ => rfl) (kR _)
  · refine dw_g rfl ?_
    refine dg_s (pc' := 5) [.int x1] rfl (fun _ => rfl) rfl ?_
    refine dg_s (pc' := 6) [.ref x0, .int x1] rfl (fun _ => rfl) rfl ?_
    refine dg_s (pc' := 9) [.int (m.1 x0 1), .int x1] rfl (fun _ => rfl) rfl ?_
    refine dw_if (fun t => Φ t) ((Int32.toInt (m.1 x0 1)) ≤ (Int32.toInt x1)) [] 16 12 rfl (fun _ => rfl) (fun c1 => ?_) (fun c1 => ?_)
    · refine dw_g rfl ?_
      refine dg_s (pc' := 17) [.int (0 : Int32)] rfl (fun _ => rfl) rfl ?_
      exact dw_r (some (.inl (some (.int (0 : Int32)), m))) rfl (fun _ => rfl) (kR _)
    · refine dw_g rfl ?_
      refine dg_s (pc' := 13) [.int (1 : Int32)] rfl (fun _ => rfl) rfl ?_
      refine dg_s (pc' := 17) [.int (1 : Int32)] rfl (fun _ => rfl) rfl ?_
      exact dw_r (some (.inl (some (.int (1 : Int32)), m))) rfl (fun _ => rfl) (kR _)
def H_X3_hasEvent : dc_H := fun As m k => match As with
  | [.ref x0, .int x1] => k (some (.int (d_X3_hasEvent x0 x1 m))) m
  | _ => dc_kz
theorem H_X3_hasEvent_ok {u : Nat} : dc_cok u 26 H_X3_hasEvent := fun M' hG N As m k P hz hP => by
  obtain rfl : ab_M_X3_hasEvent = M' := Option.some.inj hG
  unfold H_X3_hasEvent at hP
  split at hP
  · rename_i x0 x1
    exact dc_pv.imp (k_X3_hasEvent (Φ := fun (t : Int32) r m' => P (k (some (.int t)) m) → P (k r m')) x0 x1 m (fun _  h => h) rfl rfl) (fun r m' h => h hP)
  · exact absurd hP hz
def C_X3_hasPlace : List (Nat × dc_H) := []
theorem CO_X3_hasPlace {u : Nat} : dc_CO u C_X3_hasPlace := dc_CO_nil
def S_X3_hasPlace : List (Nat × List Nat) := []
def d_X3_hasPlace (x0 : Nat) (x1 : Int32) (m : dc_M) : Int32 :=
  (if (Int32.toInt x1) < 0 then (0 : Int32) else (if (Int32.toInt (m.1 x0 2)) ≤ (Int32.toInt x1) then (0 : Int32) else (1 : Int32)))
set_option maxHeartbeats 8000000 in
theorem k_X3_hasPlace {u : Nat} {N : Nat} {Φ : Int32 → Option Value → dc_M → Prop} (x0 : Nat) (x1 : Int32) (m : dc_M) (kR : ∀ (v : Int32), Φ (v) (some (.int v)) m)  {lv : ab_L} (f0 : ab_lk lv 0 = some (.ref x0)) (f1 : ab_lk lv 1 = some (.int x1)) : dc_pv u N ab_M_X3_hasPlace 0 lv [] m (Φ (d_X3_hasPlace x0 x1 m)) := by
  refine dc_pv.mono (dc_ok (C := C_X3_hasPlace) (S := S_X3_hasPlace) CO_X3_hasPlace 400 0 [(0, .ref x0), (1, .int x1)] lv [] m (dc_sub_cons f0 (dc_sub_cons f1 (dc_sub_nil))) ?_) (Nat.le_succ N)
  unfold d_X3_hasPlace
  refine dg_s (pc' := 1) [.int x1] rfl (fun _ => rfl) rfl ?_
  refine dw_if (fun t => Φ t) ((Int32.toInt x1) < 0) [] 16 4 rfl (fun _ => rfl) (fun c0 => ?_) (fun c0 => ?_)
  · refine dw_g rfl ?_
    refine dg_s (pc' := 17) [.int (0 : Int32)] rfl (fun _ => rfl) rfl ?_
    exact dw_r (some (.inl (some (.int (0 : Int32)), m))) rfl (fun _ => rfl) (kR _)
  · refine dw_g rfl ?_
    refine dg_s (pc' := 5) [.int x1] rfl (fun _ => rfl) rfl ?_
    refine dg_s (pc' := 6) [.ref x0, .int x1] rfl (fun _ => rfl) rfl ?_
    refine dg_s (pc' := 9) [.int (m.1 x0 2), .int x1] rfl (fun _ => rfl) rfl ?_
    refine dw_if (fun t => Φ t) ((Int32.toInt (m.1 x0 2)) ≤ (Int32.toInt x1)) [] 16 12 rfl (fun _ => rfl) (fun c1 => ?_) (fun c1 => ?_)
    · refine dw_g rfl ?_
      refine dg_s (pc' := 17) [.int (0 : Int32)] rfl (fun _ => rfl) rfl ?_
      exact dw_r (some (.inl (some (.int (0 : Int32)), m))) rfl (fun _ => rfl) (kR _)
    · refine dw_g rfl ?_
      refine dg_s (pc' := 13) [.int (1 : Int32)] rfl (fun _ => rfl) rfl ?_
      refine dg_s (pc' := 17) [.int (1 : Int32)] rfl (fun _ => rfl) rfl ?_
      exact dw_r (some (.inl (some (.int (1 : Int32)), m))) rfl (fun _ => rfl) (kR _)
def H_X3_hasPlace : dc_H := fun As m k => match As with
  | [.ref x0, .int x1] => k (some (.int (d_X3_hasPlace x0 x1 m))) m
  | _ => dc_kz
theorem H_X3_hasPlace_ok {u : Nat} : dc_cok u 27 H_X3_hasPlace := fun M' hG N As m k P hz hP => by
  obtain rfl : ab_M_X3_hasPlace = M' := Option.some.inj hG
  unfold H_X3_hasPlace at hP
  split at hP
  · rename_i x0 x1
    exact dc_pv.imp (k_X3_hasPlace (Φ := fun (t : Int32) r m' => P (k (some (.int t)) m) → P (k r m')) x0 x1 m (fun _  h => h) rfl rfl) (fun r m' h => h hP)
  · exact absurd hP hz
def C_X3_isMade : List (Nat × dc_H) := [(25, H_X3_hasWire)]
theorem CO_X3_isMade {u : Nat} : dc_CO u C_X3_isMade := dc_CO_cons H_X3_hasWire_ok (dc_CO_nil)
def S_X3_isMade : List (Nat × List Nat) := []
def d_X3_isMade (x0 : Nat) (x1 : Int32) (m : dc_M) : Int32 :=
  (if (Int32.toInt (d_X3_hasWire x0 x1 m)) = 0 then (0 : Int32) else (if (Int32.toInt (m.1 (x0 + 2) (Int32.toNatClampNeg x1))) = 0 then (0 : Int32) else (1 : Int32)))
set_option maxHeartbeats 8000000 in
theorem k_X3_isMade {u : Nat} {N : Nat} {Φ : Int32 → Option Value → dc_M → Prop} (x0 : Nat) (x1 : Int32) (m : dc_M) (kR : ∀ (v : Int32), Φ (v) (some (.int v)) m)  {lv : ab_L} (f0 : ab_lk lv 0 = some (.ref x0)) (f1 : ab_lk lv 1 = some (.int x1)) : dc_pv u N ab_M_X3_isMade 0 lv [] m (Φ (d_X3_isMade x0 x1 m)) := by
  refine dc_pv.mono (dc_ok (C := C_X3_isMade) (S := S_X3_isMade) CO_X3_isMade 400 0 [(0, .ref x0), (1, .int x1)] lv [] m (dc_sub_cons f0 (dc_sub_cons f1 (dc_sub_nil))) ?_) (Nat.le_succ N)
  unfold d_X3_isMade
  refine dg_s (pc' := 1) [.ref x0] rfl (fun _ => rfl) rfl ?_
  refine dg_s (pc' := 2) [.int x1, .ref x0] rfl (fun _ => rfl) rfl ?_
  refine dg_s (pc' := 5) [.int (d_X3_hasWire x0 x1 m)] rfl (fun _ => rfl) rfl ?_
  refine dw_if (fun t => Φ t) ((Int32.toInt (d_X3_hasWire x0 x1 m)) = 0) [] 21 8 rfl (fun _ => rfl) (fun c0 => ?_) (fun c0 => ?_)
  · refine dw_g rfl ?_
    refine dg_s (pc' := 22) [.int (0 : Int32)] rfl (fun _ => rfl) rfl ?_
    exact dw_r (some (.inl (some (.int (0 : Int32)), m))) rfl (fun _ => rfl) (kR _)
  · refine dw_g rfl ?_
    refine dg_s (pc' := 9) [.ref x0] rfl (fun _ => rfl) rfl ?_
    refine dg_s (pc' := 12) [.ref (x0 + 2)] rfl (fun _ => rfl) rfl ?_
    refine dg_s (pc' := 13) [.int x1, .ref (x0 + 2)] rfl (fun _ => rfl) rfl ?_
    refine dg_s (pc' := 14) [.int (m.1 (x0 + 2) (Int32.toNatClampNeg x1))] rfl (fun _ => rfl) rfl ?_
    refine dw_if (fun t => Φ t) ((Int32.toInt (m.1 (x0 + 2) (Int32.toNatClampNeg x1))) = 0) [] 21 17 rfl (fun _ => rfl) (fun c1 => ?_) (fun c1 => ?_)
    · refine dw_g rfl ?_
      refine dg_s (pc' := 22) [.int (0 : Int32)] rfl (fun _ => rfl) rfl ?_
      exact dw_r (some (.inl (some (.int (0 : Int32)), m))) rfl (fun _ => rfl) (kR _)
    · refine dw_g rfl ?_
      refine dg_s (pc' := 18) [.int (1 : Int32)] rfl (fun _ => rfl) rfl ?_
      refine dg_s (pc' := 22) [.int (1 : Int32)] rfl (fun _ => rfl) rfl ?_
      exact dw_r (some (.inl (some (.int (1 : Int32)), m))) rfl (fun _ => rfl) (kR _)
def H_X3_isMade : dc_H := fun As m k => match As with
  | [.ref x0, .int x1] => k (some (.int (d_X3_isMade x0 x1 m))) m
  | _ => dc_kz
theorem H_X3_isMade_ok {u : Nat} : dc_cok u 28 H_X3_isMade := fun M' hG N As m k P hz hP => by
  obtain rfl : ab_M_X3_isMade = M' := Option.some.inj hG
  unfold H_X3_isMade at hP
  split at hP
  · rename_i x0 x1
    exact dc_pv.imp (k_X3_isMade (Φ := fun (t : Int32) r m' => P (k (some (.int t)) m) → P (k r m')) x0 x1 m (fun _  h => h) rfl rfl) (fun r m' h => h hP)
  · exact absurd hP hz
def C_X3_eventsOf : List (Nat × dc_H) := []
theorem CO_X3_eventsOf {u : Nat} : dc_CO u C_X3_eventsOf := dc_CO_nil
def S_X3_eventsOf : List (Nat × List Nat) := [(4, [0, 1, 2, 3])]
noncomputable def d_X3_eventsOf_l4b (x0 : Nat) (x1 : Int32) (x2 : Int32) (x3 : Int32) (m : dc_M) : Option ((Int32 × Int32) ⊕ Int32) :=
  (if (Int32.toInt (m.1 x0 1)) ≤ (Int32.toInt x3) then some (Sum.inr (x2)) else (if ¬ (Int32.toInt (m.1 (x0 + 3) (Int32.toNatClampNeg x3))) = (Int32.toInt x1) then some (Sum.inl (x2, (x3 + (1 : Int32)))) else some (Sum.inl ((x2 + (1 : Int32)), (x3 + (1 : Int32))))))
noncomputable def d_X3_eventsOf_l4s (x0 : Nat) (x1 : Int32) (m : dc_M) : (Int32 × Int32) → Option ((Int32 × Int32) ⊕ Int32) := fun s => d_X3_eventsOf_l4b x0 x1 s.1 s.2 m
noncomputable def d_X3_eventsOf_l4 (x0 : Nat) (x1 : Int32) (x2 : Int32) (x3 : Int32) (m : dc_M) : Option Int32 := dc_lp (d_X3_eventsOf_l4s x0 x1 m) (x2, x3)
set_option maxHeartbeats 8000000 in
theorem k_X3_eventsOf_l4 {u : Nat} {Φ : (Option Int32) → Option Value → dc_M → Prop} (x0 : Nat) (x1 : Int32) (m : dc_M) (kR : ∀ (v : Int32), Φ (some (v)) (some (.int v)) m) : ∀ (N : Nat), ∀ (x2 : Int32) (x3 : Int32) (lv : ab_L), ab_lk lv 0 = some (.ref x0) → ab_lk lv 1 = some (.int x1) → ab_lk lv 2 = some (.int x2) → ab_lk lv 3 = some (.int x3) → dc_pv u N ab_M_X3_eventsOf 4 lv [] m (Φ (d_X3_eventsOf_l4 x0 x1 x2 x3 m)) := by
  intro N
  induction N with
  | zero => intros; exact dc_pv_zero
  | succ N ih =>
    intro x2 x3 lv f0 f1 f2 f3
    refine dc_ok (C := C_X3_eventsOf) (S := S_X3_eventsOf) CO_X3_eventsOf 400 4 [(0, .ref x0), (1, .int x1), (2, .int x2), (3, .int x3)] lv [] m (dc_sub_cons f0 (dc_sub_cons f1 (dc_sub_cons f2 (dc_sub_cons f3 (dc_sub_nil))))) ?_
    unfold d_X3_eventsOf_l4
    rw [dc_lp_eq]
    show (fun t x => dc_lf u N ab_M_X3_eventsOf (Φ (Option.bind t (dc_bk (d_X3_eventsOf_l4s x0 x1 m)))) x) (d_X3_eventsOf_l4b x0 x1 x2 x3 m) _
    dsimp only
    unfold d_X3_eventsOf_l4b
    refine dg_s (pc' := 5) [.int x3] rfl (fun _ => rfl) rfl ?_
    refine dg_s (pc' := 6) [.ref x0, .int x3] rfl (fun _ => rfl) rfl ?_
    refine dg_s (pc' := 9) [.int (m.1 x0 1), .int x3] rfl (fun _ => rfl) rfl ?_
    refine dw_if (fun t => Φ (Option.bind t (dc_bk (d_X3_eventsOf_l4s x0 x1 m)))) ((Int32.toInt (m.1 x0 1)) ≤ (Int32.toInt x3)) [] 31 12 rfl (fun _ => rfl) (fun c0 => ?_) (fun c0 => ?_)
    · refine dw_g rfl ?_
      refine dg_s (pc' := 32) [.int x2] rfl (fun _ => rfl) rfl ?_
      exact dw_r (some (.inl (some (.int x2), m))) rfl (fun _ => rfl) (kR _)
    · refine dw_g rfl ?_
      refine dg_s (pc' := 13) [.ref x0] rfl (fun _ => rfl) rfl ?_
      refine dg_s (pc' := 16) [.ref (x0 + 3)] rfl (fun _ => rfl) rfl ?_
      refine dg_s (pc' := 17) [.int x3, .ref (x0 + 3)] rfl (fun _ => rfl) rfl ?_
      refine dg_s (pc' := 18) [.int (m.1 (x0 + 3) (Int32.toNatClampNeg x3))] rfl (fun _ => rfl) rfl ?_
      refine dg_s (pc' := 19) [.int x1, .int (m.1 (x0 + 3) (Int32.toNatClampNeg x3))] rfl (fun _ => rfl) rfl ?_
      refine dw_if (fun t => Φ (Option.bind t (dc_bk (d_X3_eventsOf_l4s x0 x1 m)))) (¬ (Int32.toInt (m.1 (x0 + 3) (Int32.toNatClampNeg x3))) = (Int32.toInt x1)) [] 25 22 rfl (fun _ => rfl) (fun c1 => ?_) (fun c1 => ?_)
      · refine dw_g rfl ?_
        refine dg_L (pc' := 28) [(3, .int (x3 + (1 : Int32))), (0, .ref x0), (1, .int x1), (2, .int x2)] [] rfl (fun _ => rfl) rfl ?_
        refine dw_s (pc' := 4) [] rfl (fun _ => rfl) ?_
        exact dw_j rfl (fun lv1 hv => ih x2 (x3 + (1 : Int32)) lv1 (hv.1 _ rfl) (hv.2.1 _ rfl) (hv.2.2.1 _ rfl) (hv.2.2.2.1 _ rfl))
      · refine dw_g rfl ?_
        refine dg_L (pc' := 25) [(2, .int (x2 + (1 : Int32))), (0, .ref x0), (1, .int x1), (3, .int x3)] [] rfl (fun _ => rfl) rfl ?_
        refine dg_L (pc' := 28) [(3, .int (x3 + (1 : Int32))), (2, .int (x2 + (1 : Int32))), (0, .ref x0), (1, .int x1)] [] rfl (fun _ => rfl) rfl ?_
        refine dw_s (pc' := 4) [] rfl (fun _ => rfl) ?_
        exact dw_j rfl (fun lv1 hv => ih (x2 + (1 : Int32)) (x3 + (1 : Int32)) lv1 (hv.1 _ rfl) (hv.2.1 _ rfl) (hv.2.2.1 _ rfl) (hv.2.2.2.1 _ rfl))
noncomputable def d_X3_eventsOf (x0 : Nat) (x1 : Int32) (m : dc_M) : Option Int32 :=
  (d_X3_eventsOf_l4 x0 x1 (0 : Int32) (0 : Int32) m)
set_option maxHeartbeats 8000000 in
theorem k_X3_eventsOf {u : Nat} {N : Nat} {Φ : (Option Int32) → Option Value → dc_M → Prop} (x0 : Nat) (x1 : Int32) (m : dc_M) (kR : ∀ (v : Int32), Φ (some (v)) (some (.int v)) m)  {lv : ab_L} (f0 : ab_lk lv 0 = some (.ref x0)) (f1 : ab_lk lv 1 = some (.int x1)) : dc_pv u N ab_M_X3_eventsOf 0 lv [] m (Φ (d_X3_eventsOf x0 x1 m)) := by
  refine dc_pv.mono (dc_ok (C := C_X3_eventsOf) (S := S_X3_eventsOf) CO_X3_eventsOf 400 0 [(0, .ref x0), (1, .int x1)] lv [] m (dc_sub_cons f0 (dc_sub_cons f1 (dc_sub_nil))) ?_) (Nat.le_succ N)
  unfold d_X3_eventsOf
  refine dg_s (pc' := 1) [.int (0 : Int32)] rfl (fun _ => rfl) rfl ?_
  refine dg_L (pc' := 2) [(2, .int (0 : Int32)), (0, .ref x0), (1, .int x1)] [] rfl (fun _ => rfl) rfl ?_
  refine dg_s (pc' := 3) [.int (0 : Int32)] rfl (fun _ => rfl) rfl ?_
  refine dw_L (pc' := 4) [(3, .int (0 : Int32)), (2, .int (0 : Int32)), (0, .ref x0), (1, .int x1)] [] rfl (fun _ => rfl) ?_
  exact dw_j rfl (fun lv1 hv => k_X3_eventsOf_l4 (Φ := (fun t => Φ t)) x0 x1 m (fun _a  => kR _a) N  (0 : Int32) (0 : Int32) lv1 (hv.1 _ rfl) (hv.2.1 _ rfl) (hv.2.2.1 _ rfl) (hv.2.2.2.1 _ rfl))
noncomputable def H_X3_eventsOf : dc_H := fun As m k => match As with
  | [.ref x0, .int x1] => (d_X3_eventsOf x0 x1 m).bind (fun q => k (some (.int q)) m)
  | _ => dc_kz
theorem H_X3_eventsOf_ok {u : Nat} : dc_cok u 30 H_X3_eventsOf := fun M' hG N As m k P hz hP => by
  obtain rfl : ab_M_X3_eventsOf = M' := Option.some.inj hG
  unfold H_X3_eventsOf at hP
  split at hP
  · rename_i x0 x1
    exact dc_pv.imp (k_X3_eventsOf (Φ := fun (t : Option Int32) r m' => P (t.bind (fun q => k (some (.int q)) m)) → P (k r m')) x0 x1 m (fun _  h => h) rfl rfl) (fun r m' h => h hP)
  · exact absurd hP hz
def C_X3_wireCalled : List (Nat × dc_H) := []
theorem CO_X3_wireCalled {u : Nat} : dc_CO u C_X3_wireCalled := dc_CO_nil
def S_X3_wireCalled : List (Nat × List Nat) := [(2, [0, 1, 2])]
noncomputable def d_X3_wireCalled_l2b (x0 : Nat) (x1 : Int32) (x2 : Int32) (m : dc_M) : Option (Int32 ⊕ Int32) :=
  (if (Int32.toInt (m.1 x0 0)) ≤ (Int32.toInt x2) then some (Sum.inr ((-4 : Int32))) else (if ¬ (Int32.toInt (m.1 (x0 + 1) (Int32.toNatClampNeg x2))) = (Int32.toInt x1) then some (Sum.inl (x2 + (1 : Int32))) else some (Sum.inr (x2))))
noncomputable def d_X3_wireCalled_l2s (x0 : Nat) (x1 : Int32) (m : dc_M) : Int32 → Option (Int32 ⊕ Int32) := fun s => d_X3_wireCalled_l2b x0 x1 s m
noncomputable def d_X3_wireCalled_l2 (x0 : Nat) (x1 : Int32) (x2 : Int32) (m : dc_M) : Option Int32 := dc_lp (d_X3_wireCalled_l2s x0 x1 m) x2
set_option maxHeartbeats 8000000 in
theorem k_X3_wireCalled_l2 {u : Nat} {Φ : (Option Int32) → Option Value → dc_M → Prop} (x0 : Nat) (x1 : Int32) (m : dc_M) (kR : ∀ (v : Int32), Φ (some (v)) (some (.int v)) m) : ∀ (N : Nat), ∀ (x2 : Int32) (lv : ab_L), ab_lk lv 0 = some (.ref x0) → ab_lk lv 1 = some (.int x1) → ab_lk lv 2 = some (.int x2) → dc_pv u N ab_M_X3_wireCalled 2 lv [] m (Φ (d_X3_wireCalled_l2 x0 x1 x2 m)) := by
  intro N
  induction N with
  | zero => intros; exact dc_pv_zero
  | succ N ih =>
    intro x2 lv f0 f1 f2
    refine dc_ok (C := C_X3_wireCalled) (S := S_X3_wireCalled) CO_X3_wireCalled 400 2 [(0, .ref x0), (1, .int x1), (2, .int x2)] lv [] m (dc_sub_cons f0 (dc_sub_cons f1 (dc_sub_cons f2 (dc_sub_nil)))) ?_
    unfold d_X3_wireCalled_l2
    rw [dc_lp_eq]
    show (fun t x => dc_lf u N ab_M_X3_wireCalled (Φ (Option.bind t (dc_bk (d_X3_wireCalled_l2s x0 x1 m)))) x) (d_X3_wireCalled_l2b x0 x1 x2 m) _
    dsimp only
    unfold d_X3_wireCalled_l2b
    refine dg_s (pc' := 3) [.int x2] rfl (fun _ => rfl) rfl ?_
    refine dg_s (pc' := 4) [.ref x0, .int x2] rfl (fun _ => rfl) rfl ?_
    refine dg_s (pc' := 7) [.int (m.1 x0 0), .int x2] rfl (fun _ => rfl) rfl ?_
    refine dw_if (fun t => Φ (Option.bind t (dc_bk (d_X3_wireCalled_l2s x0 x1 m)))) ((Int32.toInt (m.1 x0 0)) ≤ (Int32.toInt x2)) [] 28 10 rfl (fun _ => rfl) (fun c0 => ?_) (fun c0 => ?_)
    · refine dw_g rfl ?_
      refine dg_s (pc' := 30) [.int (-4 : Int32)] rfl (fun _ => rfl) rfl ?_
      exact dw_r (some (.inl (some (.int (-4 : Int32)), m))) rfl (fun _ => rfl) (kR _)
    · refine dw_g rfl ?_
      refine dg_s (pc' := 11) [.ref x0] rfl (fun _ => rfl) rfl ?_
      refine dg_s (pc' := 14) [.ref (x0 + 1)] rfl (fun _ => rfl) rfl ?_
      refine dg_s (pc' := 15) [.int x2, .ref (x0 + 1)] rfl (fun _ => rfl) rfl ?_
      refine dg_s (pc' := 16) [.int (m.1 (x0 + 1) (Int32.toNatClampNeg x2))] rfl (fun _ => rfl) rfl ?_
      refine dg_s (pc' := 17) [.int x1, .int (m.1 (x0 + 1) (Int32.toNatClampNeg x2))] rfl (fun _ => rfl) rfl ?_
      refine dw_if (fun t => Φ (Option.bind t (dc_bk (d_X3_wireCalled_l2s x0 x1 m)))) (¬ (Int32.toInt (m.1 (x0 + 1) (Int32.toNatClampNeg x2))) = (Int32.toInt x1)) [] 22 20 rfl (fun _ => rfl) (fun c1 => ?_) (fun c1 => ?_)
      · refine dw_g rfl ?_
        refine dg_L (pc' := 25) [(2, .int (x2 + (1 : Int32))), (0, .ref x0), (1, .int x1)] [] rfl (fun _ => rfl) rfl ?_
        refine dw_s (pc' := 2) [] rfl (fun _ => rfl) ?_
        exact dw_j rfl (fun lv1 hv => ih (x2 + (1 : Int32)) lv1 (hv.1 _ rfl) (hv.2.1 _ rfl) (hv.2.2.1 _ rfl))
      · refine dw_g rfl ?_
        refine dg_s (pc' := 21) [.int x2] rfl (fun _ => rfl) rfl ?_
        exact dw_r (some (.inl (some (.int x2), m))) rfl (fun _ => rfl) (kR _)
noncomputable def d_X3_wireCalled (x0 : Nat) (x1 : Int32) (m : dc_M) : Option Int32 :=
  (d_X3_wireCalled_l2 x0 x1 (0 : Int32) m)
set_option maxHeartbeats 8000000 in
theorem k_X3_wireCalled {u : Nat} {N : Nat} {Φ : (Option Int32) → Option Value → dc_M → Prop} (x0 : Nat) (x1 : Int32) (m : dc_M) (kR : ∀ (v : Int32), Φ (some (v)) (some (.int v)) m)  {lv : ab_L} (f0 : ab_lk lv 0 = some (.ref x0)) (f1 : ab_lk lv 1 = some (.int x1)) : dc_pv u N ab_M_X3_wireCalled 0 lv [] m (Φ (d_X3_wireCalled x0 x1 m)) := by
  refine dc_pv.mono (dc_ok (C := C_X3_wireCalled) (S := S_X3_wireCalled) CO_X3_wireCalled 400 0 [(0, .ref x0), (1, .int x1)] lv [] m (dc_sub_cons f0 (dc_sub_cons f1 (dc_sub_nil))) ?_) (Nat.le_succ N)
  unfold d_X3_wireCalled
  refine dg_s (pc' := 1) [.int (0 : Int32)] rfl (fun _ => rfl) rfl ?_
  refine dw_L (pc' := 2) [(2, .int (0 : Int32)), (0, .ref x0), (1, .int x1)] [] rfl (fun _ => rfl) ?_
  exact dw_j rfl (fun lv1 hv => k_X3_wireCalled_l2 (Φ := (fun t => Φ t)) x0 x1 m (fun _a  => kR _a) N  (0 : Int32) lv1 (hv.1 _ rfl) (hv.2.1 _ rfl) (hv.2.2.1 _ rfl))
noncomputable def H_X3_wireCalled : dc_H := fun As m k => match As with
  | [.ref x0, .int x1] => (d_X3_wireCalled x0 x1 m).bind (fun q => k (some (.int q)) m)
  | _ => dc_kz
theorem H_X3_wireCalled_ok {u : Nat} : dc_cok u 31 H_X3_wireCalled := fun M' hG N As m k P hz hP => by
  obtain rfl : ab_M_X3_wireCalled = M' := Option.some.inj hG
  unfold H_X3_wireCalled at hP
  split at hP
  · rename_i x0 x1
    exact dc_pv.imp (k_X3_wireCalled (Φ := fun (t : Option Int32) r m' => P (t.bind (fun q => k (some (.int q)) m)) → P (k r m')) x0 x1 m (fun _  h => h) rfl rfl) (fun r m' h => h hP)
  · exact absurd hP hz
def C_X3_eventLike : List (Nat × dc_H) := []
theorem CO_X3_eventLike {u : Nat} : dc_CO u C_X3_eventLike := dc_CO_nil
def S_X3_eventLike : List (Nat × List Nat) := [(3, [0, 1, 2, 3, 4])]
noncomputable def d_X3_eventLike_l3b (x0 : Nat) (x1 : Int32) (x2 : Int32) (x3 : Int32) (x4 : Int32) (m : dc_M) : Option (Int32 ⊕ Int32) :=
  (if (Int32.toInt (m.1 x0 1)) ≤ (Int32.toInt x4) then some (Sum.inr ((-4 : Int32))) else (if ¬ (Int32.toInt (m.1 (x0 + 3) (Int32.toNatClampNeg x4))) = (Int32.toInt x1) then some (Sum.inl (x4 + (1 : Int32))) else (if ¬ (Int32.toInt (m.1 (x0 + 4) (Int32.toNatClampNeg x4))) = (Int32.toInt x2) then some (Sum.inl (x4 + (1 : Int32))) else (if ¬ (Int32.toInt (m.1 (x0 + 5) (Int32.toNatClampNeg x4))) = (Int32.toInt x3) then some (Sum.inl (x4 + (1 : Int32))) else some (Sum.inr (x4))))))
noncomputable def d_X3_eventLike_l3s (x0 : Nat) (x1 : Int32) (x2 : Int32) (x3 : Int32) (m : dc_M) : Int32 → Option (Int32 ⊕ Int32) := fun s => d_X3_eventLike_l3b x0 x1 x2 x3 s m
noncomputable def d_X3_eventLike_l3 (x0 : Nat) (x1 : Int32) (x2 : Int32) (x3 : Int32) (x4 : Int32) (m : dc_M) : Option Int32 := dc_lp (d_X3_eventLike_l3s x0 x1 x2 x3 m) x4
set_option maxHeartbeats 8000000 in
theorem k_X3_eventLike_l3 {u : Nat} {Φ : (Option Int32) → Option Value → dc_M → Prop} (x0 : Nat) (x1 : Int32) (x2 : Int32) (x3 : Int32) (m : dc_M) (kR : ∀ (v : Int32), Φ (some (v)) (some (.int v)) m) : ∀ (N : Nat), ∀ (x4 : Int32) (lv : ab_L), ab_lk lv 0 = some (.ref x0) → ab_lk lv 1 = some (.int x1) → ab_lk lv 2 = some (.int x2) → ab_lk lv 3 = some (.int x3) → ab_lk lv 4 = some (.int x4) → dc_pv u N ab_M_X3_eventLike 3 lv [] m (Φ (d_X3_eventLike_l3 x0 x1 x2 x3 x4 m)) := by
  intro N
  induction N with
  | zero => intros; exact dc_pv_zero
  | succ N ih =>
    intro x4 lv f0 f1 f2 f3 f4
    refine dc_ok (C := C_X3_eventLike) (S := S_X3_eventLike) CO_X3_eventLike 400 3 [(0, .ref x0), (1, .int x1), (2, .int x2), (3, .int x3), (4, .int x4)] lv [] m (dc_sub_cons f0 (dc_sub_cons f1 (dc_sub_cons f2 (dc_sub_cons f3 (dc_sub_cons f4 (dc_sub_nil)))))) ?_
    unfold d_X3_eventLike_l3
    rw [dc_lp_eq]
    show (fun t x => dc_lf u N ab_M_X3_eventLike (Φ (Option.bind t (dc_bk (d_X3_eventLike_l3s x0 x1 x2 x3 m)))) x) (d_X3_eventLike_l3b x0 x1 x2 x3 x4 m) _
    dsimp only
    unfold d_X3_eventLike_l3b
    refine dg_s (pc' := 5) [.int x4] rfl (fun _ => rfl) rfl ?_
    refine dg_s (pc' := 6) [.ref x0, .int x4] rfl (fun _ => rfl) rfl ?_
    refine dg_s (pc' := 9) [.int (m.1 x0 1), .int x4] rfl (fun _ => rfl) rfl ?_
    refine dw_if (fun t => Φ (Option.bind t (dc_bk (d_X3_eventLike_l3s x0 x1 x2 x3 m)))) ((Int32.toInt (m.1 x0 1)) ≤ (Int32.toInt x4)) [] 54 12 rfl (fun _ => rfl) (fun c0 => ?_) (fun c0 => ?_)
    · refine dw_g rfl ?_
      refine dg_s (pc' := 56) [.int (-4 : Int32)] rfl (fun _ => rfl) rfl ?_
      exact dw_r (some (.inl (some (.int (-4 : Int32)), m))) rfl (fun _ => rfl) (kR _)
    · refine dw_g rfl ?_
      refine dg_s (pc' := 13) [.ref x0] rfl (fun _ => rfl) rfl ?_
      refine dg_s (pc' := 16) [.ref (x0 + 3)] rfl (fun _ => rfl) rfl ?_
      refine dg_s (pc' := 18) [.int x4, .ref (x0 + 3)] rfl (fun _ => rfl) rfl ?_
      refine dg_s (pc' := 19) [.int (m.1 (x0 + 3) (Int32.toNatClampNeg x4))] rfl (fun _ => rfl) rfl ?_
      refine dg_s (pc' := 20) [.int x1, .int (m.1 (x0 + 3) (Int32.toNatClampNeg x4))] rfl (fun _ => rfl) rfl ?_
      refine dw_if (fun t => Φ (Option.bind t (dc_bk (d_X3_eventLike_l3s x0 x1 x2 x3 m)))) (¬ (Int32.toInt (m.1 (x0 + 3) (Int32.toNatClampNeg x4))) = (Int32.toInt x1)) [] 48 23 rfl (fun _ => rfl) (fun c1 => ?_) (fun c1 => ?_)
      · refine dw_g rfl ?_
        refine dg_L (pc' := 51) [(4, .int (x4 + (1 : Int32))), (0, .ref x0), (1, .int x1), (2, .int x2), (3, .int x3)] [] rfl (fun _ => rfl) rfl ?_
        refine dw_s (pc' := 3) [] rfl (fun _ => rfl) ?_
        exact dw_j rfl (fun lv1 hv => ih (x4 + (1 : Int32)) lv1 (hv.1 _ rfl) (hv.2.1 _ rfl) (hv.2.2.1 _ rfl) (hv.2.2.2.1 _ rfl) (hv.2.2.2.2.1 _ rfl))
      · refine dw_g rfl ?_
        refine dg_s (pc' := 24) [.ref x0] rfl (fun _ => rfl) rfl ?_
        refine dg_s (pc' := 27) [.ref (x0 + 4)] rfl (fun _ => rfl) rfl ?_
        refine dg_s (pc' := 29) [.int x4, .ref (x0 + 4)] rfl (fun _ => rfl) rfl ?_
        refine dg_s (pc' := 30) [.int (m.1 (x0 + 4) (Int32.toNatClampNeg x4))] rfl (fun _ => rfl) rfl ?_
        refine dg_s (pc' := 31) [.int x2, .int (m.1 (x0 + 4) (Int32.toNatClampNeg x4))] rfl (fun _ => rfl) rfl ?_
        refine dw_if (fun t => Φ (Option.bind t (dc_bk (d_X3_eventLike_l3s x0 x1 x2 x3 m)))) (¬ (Int32.toInt (m.1 (x0 + 4) (Int32.toNatClampNeg x4))) = (Int32.toInt x2)) [] 48 34 rfl (fun _ => rfl) (fun c2 => ?_) (fun c2 => ?_)
        · refine dw_g rfl ?_
          refine dg_L (pc' := 51) [(4, .int (x4 + (1 : Int32))), (0, .ref x0), (1, .int x1), (2, .int x2), (3, .int x3)] [] rfl (fun _ => rfl) rfl ?_
          refine dw_s (pc' := 3) [] rfl (fun _ => rfl) ?_
          exact dw_j rfl (fun lv1 hv => ih (x4 + (1 : Int32)) lv1 (hv.1 _ rfl) (hv.2.1 _ rfl) (hv.2.2.1 _ rfl) (hv.2.2.2.1 _ rfl) (hv.2.2.2.2.1 _ rfl))
        · refine dw_g rfl ?_
          refine dg_s (pc' := 35) [.ref x0] rfl (fun _ => rfl) rfl ?_
          refine dg_s (pc' := 38) [.ref (x0 + 5)] rfl (fun _ => rfl) rfl ?_
          refine dg_s (pc' := 40) [.int x4, .ref (x0 + 5)] rfl (fun _ => rfl) rfl ?_
          refine dg_s (pc' := 41) [.int (m.1 (x0 + 5) (Int32.toNatClampNeg x4))] rfl (fun _ => rfl) rfl ?_
          refine dg_s (pc' := 42) [.int x3, .int (m.1 (x0 + 5) (Int32.toNatClampNeg x4))] rfl (fun _ => rfl) rfl ?_
          refine dw_if (fun t => Φ (Option.bind t (dc_bk (d_X3_eventLike_l3s x0 x1 x2 x3 m)))) (¬ (Int32.toInt (m.1 (x0 + 5) (Int32.toNatClampNeg x4))) = (Int32.toInt x3)) [] 48 45 rfl (fun _ => rfl) (fun c3 => ?_) (fun c3 => ?_)
          · refine dw_g rfl ?_
            refine dg_L (pc' := 51) [(4, .int (x4 + (1 : Int32))), (0, .ref x0), (1, .int x1), (2, .int x2), (3, .int x3)] [] rfl (fun _ => rfl) rfl ?_
            refine dw_s (pc' := 3) [] rfl (fun _ => rfl) ?_
            exact dw_j rfl (fun lv1 hv => ih (x4 + (1 : Int32)) lv1 (hv.1 _ rfl) (hv.2.1 _ rfl) (hv.2.2.1 _ rfl) (hv.2.2.2.1 _ rfl) (hv.2.2.2.2.1 _ rfl))
          · refine dw_g rfl ?_
            refine dg_s (pc' := 47) [.int x4] rfl (fun _ => rfl) rfl ?_
            exact dw_r (some (.inl (some (.int x4), m))) rfl (fun _ => rfl) (kR _)
noncomputable def d_X3_eventLike (x0 : Nat) (x1 : Int32) (x2 : Int32) (x3 : Int32) (m : dc_M) : Option Int32 :=
  (d_X3_eventLike_l3 x0 x1 x2 x3 (0 : Int32) m)
set_option maxHeartbeats 8000000 in
theorem k_X3_eventLike {u : Nat} {N : Nat} {Φ : (Option Int32) → Option Value → dc_M → Prop} (x0 : Nat) (x1 : Int32) (x2 : Int32) (x3 : Int32) (m : dc_M) (kR : ∀ (v : Int32), Φ (some (v)) (some (.int v)) m)  {lv : ab_L} (f0 : ab_lk lv 0 = some (.ref x0)) (f1 : ab_lk lv 1 = some (.int x1)) (f2 : ab_lk lv 2 = some (.int x2)) (f3 : ab_lk lv 3 = some (.int x3)) : dc_pv u N ab_M_X3_eventLike 0 lv [] m (Φ (d_X3_eventLike x0 x1 x2 x3 m)) := by
  refine dc_pv.mono (dc_ok (C := C_X3_eventLike) (S := S_X3_eventLike) CO_X3_eventLike 400 0 [(0, .ref x0), (1, .int x1), (2, .int x2), (3, .int x3)] lv [] m (dc_sub_cons f0 (dc_sub_cons f1 (dc_sub_cons f2 (dc_sub_cons f3 (dc_sub_nil))))) ?_) (Nat.le_succ N)
  unfold d_X3_eventLike
  refine dg_s (pc' := 1) [.int (0 : Int32)] rfl (fun _ => rfl) rfl ?_
  refine dw_L (pc' := 3) [(4, .int (0 : Int32)), (0, .ref x0), (1, .int x1), (2, .int x2), (3, .int x3)] [] rfl (fun _ => rfl) ?_
  exact dw_j rfl (fun lv1 hv => k_X3_eventLike_l3 (Φ := (fun t => Φ t)) x0 x1 x2 x3 m (fun _a  => kR _a) N  (0 : Int32) lv1 (hv.1 _ rfl) (hv.2.1 _ rfl) (hv.2.2.1 _ rfl) (hv.2.2.2.1 _ rfl) (hv.2.2.2.2.1 _ rfl))
noncomputable def H_X3_eventLike : dc_H := fun As m k => match As with
  | [.ref x0, .int x1, .int x2, .int x3] => (d_X3_eventLike x0 x1 x2 x3 m).bind (fun q => k (some (.int q)) m)
  | _ => dc_kz
theorem H_X3_eventLike_ok {u : Nat} : dc_cok u 32 H_X3_eventLike := fun M' hG N As m k P hz hP => by
  obtain rfl : ab_M_X3_eventLike = M' := Option.some.inj hG
  unfold H_X3_eventLike at hP
  split at hP
  · rename_i x0 x1 x2 x3
    exact dc_pv.imp (k_X3_eventLike (Φ := fun (t : Option Int32) r m' => P (t.bind (fun q => k (some (.int q)) m)) → P (k r m')) x0 x1 x2 x3 m (fun _  h => h) rfl rfl rfl rfl) (fun r m' h => h hP)
  · exact absurd hP hz
def C_X3_addWire : List (Nat × dc_H) := []
theorem CO_X3_addWire {u : Nat} : dc_CO u C_X3_addWire := dc_CO_nil
def S_X3_addWire : List (Nat × List Nat) := []
def d_X3_addWire (x0 : Nat) (x1 : Int32) (x2 : Int32) (m : dc_M) : (Int32 × dc_M) :=
  (if (Int32.toInt (m.1 x0 0)) < 6 then (((dc_wi (dc_wi m (x0 + 1) (Int32.toNatClampNeg (m.1 x0 0)) x1) (x0 + 2) (Int32.toNatClampNeg ((dc_wi m (x0 + 1) (Int32.toNatClampNeg (m.1 x0 0)) x1).1 x0 0)) x2).1 x0 0), (dc_wi (dc_wi (dc_wi m (x0 + 1) (Int32.toNatClampNeg (m.1 x0 0)) x1) (x0 + 2) (Int32.toNatClampNeg ((dc_wi m (x0 + 1) (Int32.toNatClampNeg (m.1 x0 0)) x1).1 x0 0)) x2) x0 0 (((dc_wi (dc_wi m (x0 + 1) (Int32.toNatClampNeg (m.1 x0 0)) x1) (x0 + 2) (Int32.toNatClampNeg ((dc_wi m (x0 + 1) (Int32.toNatClampNeg (m.1 x0 0)) x1).1 x0 0)) x2).1 x0 0) + (1 : Int32)))) else ((-4 : Int32), m))
set_option maxHeartbeats 8000000 in
theorem k_X3_addWire {u : Nat} {N : Nat} {Φ : (Int32 × dc_M) → Option Value → dc_M → Prop} (x0 : Nat) (x1 : Int32) (x2 : Int32) (m : dc_M) (kR : ∀ (v : Int32) (m : dc_M), Φ ((v, m)) (some (.int v)) m)  {lv : ab_L} (f0 : ab_lk lv 0 = some (.ref x0)) (f1 : ab_lk lv 1 = some (.int x1)) (f2 : ab_lk lv 2 = some (.int x2)) : dc_pv u N ab_M_X3_addWire 0 lv [] m (Φ (d_X3_addWire x0 x1 x2 m)) := by
  refine dc_pv.mono (dc_ok (C := C_X3_addWire) (S := S_X3_addWire) CO_X3_addWire 400 0 [(0, .ref x0), (1, .int x1), (2, .int x2)] lv [] m (dc_sub_cons f0 (dc_sub_cons f1 (dc_sub_cons f2 (dc_sub_nil)))) ?_) (Nat.le_succ N)
  unfold d_X3_addWire
  refine dg_s (pc' := 1) [.ref x0] rfl (fun _ => rfl) rfl ?_
  refine dg_s (pc' := 4) [.int (m.1 x0 0)] rfl (fun _ => rfl) rfl ?_
  refine dg_s (pc' := 6) [.int (6 : Int32), .int (m.1 x0 0)] rfl (fun _ => rfl) rfl ?_
  refine dw_if (fun t => Φ t) ((Int32.toInt (m.1 x0 0)) < 6) [] 12 9 rfl (fun _ => rfl) (fun c0 => ?_) (fun c0 => ?_)
  · refine dw_g rfl ?_
    refine dg_s (pc' := 13) [.ref x0] rfl (fun _ => rfl) rfl ?_
    refine dg_s (pc' := 16) [.ref (x0 + 1)] rfl (fun _ => rfl) rfl ?_
    refine dg_s (pc' := 17) [.ref x0, .ref (x0 + 1)] rfl (fun _ => rfl) rfl ?_
    refine dg_s (pc' := 20) [.int (m.1 x0 0), .ref (x0 + 1)] rfl (fun _ => rfl) rfl ?_
    refine dg_s (pc' := 21) [.int x1, .int (m.1 x0 0), .ref (x0 + 1)] rfl (fun _ => rfl) rfl ?_
    refine dg_m (pc' := 22) (dc_wi m (x0 + 1) (Int32.toNatClampNeg (m.1 x0 0)) x1) [] rfl (fun _ => rfl) rfl ?_
    refine dg_s (pc' := 23) [.ref x0] rfl (fun _ => rfl) rfl ?_
    refine dg_s (pc' := 26) [.ref (x0 + 2)] rfl (fun _ => rfl) rfl ?_
    refine dg_s (pc' := 27) [.ref x0, .ref (x0 + 2)] rfl (fun _ => rfl) rfl ?_
    refine dg_s (pc' := 30) [.int ((dc_wi m (x0 + 1) (Int32.toNatClampNeg (m.1 x0 0)) x1).1 x0 0), .ref (x0 + 2)] rfl (fun _ => rfl) rfl ?_
    refine dg_s (pc' := 31) [.int x2, .int ((dc_wi m (x0 + 1) (Int32.toNatClampNeg (m.1 x0 0)) x1).1 x0 0), .ref (x0 + 2)] rfl (fun _ => rfl) rfl ?_
    refine dg_m (pc' := 32) (dc_wi (dc_wi m (x0 + 1) (Int32.toNatClampNeg (m.1 x0 0)) x1) (x0 + 2) (Int32.toNatClampNeg ((dc_wi m (x0 + 1) (Int32.toNatClampNeg (m.1 x0 0)) x1).1 x0 0)) x2) [] rfl (fun _ => rfl) rfl ?_
    refine dg_s (pc' := 33) [.ref x0] rfl (fun _ => rfl) rfl ?_
    refine dg_s (pc' := 34) [.ref x0, .ref x0] rfl (fun _ => rfl) rfl ?_
    refine dg_s (pc' := 37) [.int ((dc_wi (dc_wi m (x0 + 1) (Int32.toNatClampNeg (m.1 x0 0)) x1) (x0 + 2) (Int32.toNatClampNeg ((dc_wi m (x0 + 1) (Int32.toNatClampNeg (m.1 x0 0)) x1).1 x0 0)) x2).1 x0 0), .ref x0] rfl (fun _ => rfl) rfl ?_
    refine dg_s (pc' := 38) [.int ((dc_wi (dc_wi m (x0 + 1) (Int32.toNatClampNeg (m.1 x0 0)) x1) (x0 + 2) (Int32.toNatClampNeg ((dc_wi m (x0 + 1) (Int32.toNatClampNeg (m.1 x0 0)) x1).1 x0 0)) x2).1 x0 0), .ref x0, .int ((dc_wi (dc_wi m (x0 + 1) (Int32.toNatClampNeg (m.1 x0 0)) x1) (x0 + 2) (Int32.toNatClampNeg ((dc_wi m (x0 + 1) (Int32.toNatClampNeg (m.1 x0 0)) x1).1 x0 0)) x2).1 x0 0)] rfl (fun _ => rfl) rfl ?_
    refine dg_s (pc' := 39) [.int (1 : Int32), .int ((dc_wi (dc_wi m (x0 + 1) (Int32.toNatClampNeg (m.1 x0 0)) x1) (x0 + 2) (Int32.toNatClampNeg ((dc_wi m (x0 + 1) (Int32.toNatClampNeg (m.1 x0 0)) x1).1 x0 0)) x2).1 x0 0), .ref x0, .int ((dc_wi (dc_wi m (x0 + 1) (Int32.toNatClampNeg (m.1 x0 0)) x1) (x0 + 2) (Int32.toNatClampNeg ((dc_wi m (x0 + 1) (Int32.toNatClampNeg (m.1 x0 0)) x1).1 x0 0)) x2).1 x0 0)] rfl (fun _ => rfl) rfl ?_
    refine dg_s (pc' := 40) [.int (((dc_wi (dc_wi m (x0 + 1) (Int32.toNatClampNeg (m.1 x0 0)) x1) (x0 + 2) (Int32.toNatClampNeg ((dc_wi m (x0 + 1) (Int32.toNatClampNeg (m.1 x0 0)) x1).1 x0 0)) x2).1 x0 0) + (1 : Int32)), .ref x0, .int ((dc_wi (dc_wi m (x0 + 1) (Int32.toNatClampNeg (m.1 x0 0)) x1) (x0 + 2) (Int32.toNatClampNeg ((dc_wi m (x0 + 1) (Int32.toNatClampNeg (m.1 x0 0)) x1).1 x0 0)) x2).1 x0 0)] rfl (fun _ => rfl) rfl ?_
    refine dg_m (pc' := 43) (dc_wi (dc_wi (dc_wi m (x0 + 1) (Int32.toNatClampNeg (m.1 x0 0)) x1) (x0 + 2) (Int32.toNatClampNeg ((dc_wi m (x0 + 1) (Int32.toNatClampNeg (m.1 x0 0)) x1).1 x0 0)) x2) x0 0 (((dc_wi (dc_wi m (x0 + 1) (Int32.toNatClampNeg (m.1 x0 0)) x1) (x0 + 2) (Int32.toNatClampNeg ((dc_wi m (x0 + 1) (Int32.toNatClampNeg (m.1 x0 0)) x1).1 x0 0)) x2).1 x0 0) + (1 : Int32))) [.int ((dc_wi (dc_wi m (x0 + 1) (Int32.toNatClampNeg (m.1 x0 0)) x1) (x0 + 2) (Int32.toNatClampNeg ((dc_wi m (x0 + 1) (Int32.toNatClampNeg (m.1 x0 0)) x1).1 x0 0)) x2).1 x0 0)] rfl (fun _ => rfl) rfl ?_
    exact dw_r (some (.inl (some (.int ((dc_wi (dc_wi m (x0 + 1) (Int32.toNatClampNeg (m.1 x0 0)) x1) (x0 + 2) (Int32.toNatClampNeg ((dc_wi m (x0 + 1) (Int32.toNatClampNeg (m.1 x0 0)) x1).1 x0 0)) x2).1 x0 0)), (dc_wi (dc_wi (dc_wi m (x0 + 1) (Int32.toNatClampNeg (m.1 x0 0)) x1) (x0 + 2) (Int32.toNatClampNeg ((dc_wi m (x0 + 1) (Int32.toNatClampNeg (m.1 x0 0)) x1).1 x0 0)) x2) x0 0 (((dc_wi (dc_wi m (x0 + 1) (Int32.toNatClampNeg (m.1 x0 0)) x1) (x0 + 2) (Int32.toNatClampNeg ((dc_wi m (x0 + 1) (Int32.toNatClampNeg (m.1 x0 0)) x1).1 x0 0)) x2).1 x0 0) + (1 : Int32)))))) rfl (fun _ => rfl) (kR _ _)
  · refine dw_g rfl ?_
    refine dg_s (pc' := 11) [.int (-4 : Int32)] rfl (fun _ => rfl) rfl ?_
    exact dw_r (some (.inl (some (.int (-4 : Int32)), m))) rfl (fun _ => rfl) (kR _ _)
def H_X3_addWire : dc_H := fun As m k => match As with
  | [.ref x0, .int x1, .int x2] => dc_let (d_X3_addWire x0 x1 x2 m) (fun q => k (some (.int q.1)) q.2)
  | _ => dc_kz
theorem H_X3_addWire_ok {u : Nat} : dc_cok u 33 H_X3_addWire := fun M' hG N As m k P hz hP => by
  obtain rfl : ab_M_X3_addWire = M' := Option.some.inj hG
  unfold H_X3_addWire at hP
  split at hP
  · rename_i x0 x1 x2
    exact dc_pv.imp (k_X3_addWire (Φ := fun (t : (Int32 × dc_M)) r m' => P (dc_let t (fun q => k (some (.int q.1)) q.2)) → P (k r m')) x0 x1 x2 m (fun _ _ h => h) rfl rfl rfl) (fun r m' h => h hP)
  · exact absurd hP hz
def C_X3_addEvent : List (Nat × dc_H) := []
theorem CO_X3_addEvent {u : Nat} : dc_CO u C_X3_addEvent := dc_CO_nil
def S_X3_addEvent : List (Nat × List Nat) := []
def d_X3_addEvent (x0 : Nat) (x1 : Int32) (x2 : Int32) (x3 : Int32) (m : dc_M) : (Int32 × dc_M) :=
  (if (Int32.toInt (m.1 x0 1)) < 16 then (((dc_wi (dc_wi (dc_wi (dc_wi (dc_wi (dc_wi m (x0 + 3) (Int32.toNatClampNeg (m.1 x0 1)) x1) (x0 + 4) (Int32.toNatClampNeg ((dc_wi m (x0 + 3) (Int32.toNatClampNeg (m.1 x0 1)) x1).1 x0 1)) x2) (x0 + 5) (Int32.toNatClampNeg ((dc_wi (dc_wi m (x0 + 3) (Int32.toNatClampNeg (m.1 x0 1)) x1) (x0 + 4) (Int32.toNatClampNeg ((dc_wi m (x0 + 3) (Int32.toNatClampNeg (m.1 x0 1)) x1).1 x0 1)) x2).1 x0 1)) x3) (x0 + 6) (Int32.toNatClampNeg ((dc_wi (dc_wi (dc_wi m (x0 + 3) (Int32.toNatClampNeg (m.1 x0 1)) x1) (x0 + 4) (Int32.toNatClampNeg ((dc_wi m (x0 + 3) (Int32.toNatClampNeg (m.1 x0 1)) x1).1 x0 1)) x2) (x0 + 5) (Int32.toNatClampNeg ((dc_wi (dc_wi m (x0 + 3) (Int32.toNatClampNeg (m.1 x0 1)) x1) (x0 + 4) (Int32.toNatClampNeg ((dc_wi m (x0 + 3) (Int32.toNatClampNeg (m.1 x0 1)) x1).1 x0 1)) x2).1 x0 1)) x3).1 x0 1)) (0 : Int32)) (x0 + 7) (Int32.toNatClampNeg ((dc_wi (dc_wi (dc_wi (dc_wi m (x0 + 3) (Int32.toNatClampNeg (m.1 x0 1)) x1) (x0 + 4) (Int32.toNatClampNeg ((dc_wi m (x0 + 3) (Int32.toNatClampNeg (m.1 x0 1)) x1).1 x0 1)) x2) (x0 + 5) (Int32.toNatClampNeg ((dc_wi (dc_wi m (x0 + 3) (Int32.toNatClampNeg (m.1 x0 1)) x1) (x0 + 4) (Int32.toNatClampNeg ((dc_wi m (x0 + 3) (Int32.toNatClampNeg (m.1 x0 1)) x1).1 x0 1)) x2).1 x0 1)) x3) (x0 + 6) (Int32.toNatClampNeg ((dc_wi (dc_wi (dc_wi m (x0 + 3) (Int32.toNatClampNeg (m.1 x0 1)) x1) (x0 + 4) (Int32.toNatClampNeg ((dc_wi m (x0 + 3) (Int32.toNatClampNeg (m.1 x0 1)) x1).1 x0 1)) x2) (x0 + 5) (Int32.toNatClampNeg ((dc_wi (dc_wi m (x0 + 3) (Int32.toNatClampNeg (m.1 x0 1)) x1) (x0 + 4) (Int32.toNatClampNeg ((dc_wi m (x0 + 3) (Int32.toNatClampNeg (m.1 x0 1)) x1).1 x0 1)) x2).1 x0 1)) x3).1 x0 1)) (0 : Int32)).1 x0 1)) (0 : Int32)) (x0 + 8) (Int32.toNatClampNeg ((dc_wi (dc_wi (dc_wi (dc_wi (dc_wi m (x0 + 3) (Int32.toNatClampNeg (m.1 x0 1)) x1) (x0 + 4) (Int32.toNatClampNeg ((dc_wi m (x0 + 3) (Int32.toNatClampNeg (m.1 x0 1)) x1).1 x0 1)) x2) (x0 + 5) (Int32.toNatClampNeg ((dc_wi (dc_wi m (x0 + 3) (Int32.toNatClampNeg (m.1 x0 1)) x1) (x0 + 4) (Int32.toNatClampNeg ((dc_wi m (x0 + 3) (Int32.toNatClampNeg (m.1 x0 1)) x1).1 x0 1)) x2).1 x0 1)) x3) (x0 + 6) (Int32.toNatClampNeg ((dc_wi (dc_wi (dc_wi m (x0 + 3) (Int32.toNatClampNeg (m.1 x0 1)) x1) (x0 + 4) (Int32.toNatClampNeg ((dc_wi m (x0 + 3) (Int32.toNatClampNeg (m.1 x0 1)) x1).1 x0 1)) x2) (x0 + 5) (Int32.toNatClampNeg ((dc_wi (dc_wi m (x0 + 3) (Int32.toNatClampNeg (m.1 x0 1)) x1) (x0 + 4) (Int32.toNatClampNeg ((dc_wi m (x0 + 3) (Int32.toNatClampNeg (m.1 x0 1)) x1).1 x0 1)) x2).1 x0 1)) x3).1 x0 1)) (0 : Int32)) (x0 + 7) (Int32.toNatClampNeg ((dc_wi (dc_wi (dc_wi (dc_wi m (x0 + 3) (Int32.toNatClampNeg (m.1 x0 1)) x1) (x0 + 4) (Int32.toNatClampNeg ((dc_wi m (x0 + 3) (Int32.toNatClampNeg (m.1 x0 1)) x1).1 x0 1)) x2) (x0 + 5) (Int32.toNatClampNeg ((dc_wi (dc_wi m (x0 + 3) (Int32.toNatClampNeg (m.1 x0 1)) x1) (x0 + 4) (Int32.toNatClampNeg ((dc_wi m (x0 + 3) (Int32.toNatClampNeg (m.1 x0 1)) x1).1 x0 1)) x2).1 x0 1)) x3) (x0 + 6) (Int32.toNatClampNeg ((dc_wi (dc_wi (dc_wi m (x0 + 3) (Int32.toNatClampNeg (m.1 x0 1)) x1) (x0 + 4) (Int32.toNatClampNeg ((dc_wi m (x0 + 3) (Int32.toNatClampNeg (m.1 x0 1)) x1).1 x0 1)) x2) (x0 + 5) (Int32.toNatClampNeg ((dc_wi (dc_wi m (x0 + 3) (Int32.toNatClampNeg (m.1 x0 1)) x1) (x0 + 4) (Int32.toNatClampNeg ((dc_wi m (x0 + 3) (Int32.toNatClampNeg (m.1 x0 1)) x1).1 x0 1)) x2).1 x0 1)) x3).1 x0 1)) (0 : Int32)).1 x0 1)) (0 : Int32)).1 x0 1)) (1 : Int32)).1 x0 1), (dc_wi (dc_wi (dc_wi (dc_wi (dc_wi (dc_wi (dc_wi m (x0 + 3) (Int32.toNatClampNeg (m.1 x0 1)) x1) (x0 + 4) (Int32.toNatClampNeg ((dc_wi m (x0 + 3) (Int32.toNatClampNeg (m.1 x0 1)) x1).1 x0 1)) x2) (x0 + 5) (Int32.toNatClampNeg ((dc_wi (dc_wi m (x0 + 3) (Int32.toNatClampNeg (m.1 x0 1)) x1) (x0 + 4) (Int32.toNatClampNeg ((dc_wi m (x0 + 3) (Int32.toNatClampNeg (m.1 x0 1)) x1).1 x0 1)) x2).1 x0 1)) x3) (x0 + 6) (Int32.toNatClampNeg ((dc_wi (dc_wi (dc_wi m (x0 + 3) (Int32.toNatClampNeg (m.1 x0 1)) x1) (x0 + 4) (Int32.toNatClampNeg ((dc_wi m (x0 + 3) (Int32.toNatClampNeg (m.1 x0 1)) x1).1 x0 1)) x2) (x0 + 5) (Int32.toNatClampNeg ((dc_wi (dc_wi m (x0 + 3) (Int32.toNatClampNeg (m.1 x0 1)) x1) (x0 + 4) (Int32.toNatClampNeg ((dc_wi m (x0 + 3) (Int32.toNatClampNeg (m.1 x0 1)) x1).1 x0 1)) x2).1 x0 1)) x3).1 x0 1)) (0 : Int32)) (x0 + 7) (Int32.toNatClampNeg ((dc_wi (dc_wi (dc_wi (dc_wi m (x0 + 3) (Int32.toNatClampNeg (m.1 x0 1)) x1) (x0 + 4) (Int32.toNatClampNeg ((dc_wi m (x0 + 3) (Int32.toNatClampNeg (m.1 x0 1)) x1).1 x0 1)) x2) (x0 + 5) (Int32.toNatClampNeg ((dc_wi (dc_wi m (x0 + 3) (Int32.toNatClampNeg (m.1 x0 1)) x1) (x0 + 4) (Int32.toNatClampNeg ((dc_wi m (x0 + 3) (Int32.toNatClampNeg (m.1 x0 1)) x1).1 x0 1)) x2).1 x0 1)) x3) (x0 + 6) (Int32.toNatClampNeg ((dc_wi (dc_wi (dc_wi m (x0 + 3) (Int32.toNatClampNeg (m.1 x0 1)) x1) (x0 + 4) (Int32.toNatClampNeg ((dc_wi m (x0 + 3) (Int32.toNatClampNeg (m.1 x0 1)) x1).1 x0 1)) x2) (x0 + 5) (Int32.toNatClampNeg ((dc_wi (dc_wi m (x0 + 3) (Int32.toNatClampNeg (m.1 x0 1)) x1) (x0 + 4) (Int32.toNatClampNeg ((dc_wi m (x0 + 3) (Int32.toNatClampNeg (m.1 x0 1)) x1).1 x0 1)) x2).1 x0 1)) x3).1 x0 1)) (0 : Int32)).1 x0 1)) (0 : Int32)) (x0 + 8) (Int32.toNatClampNeg ((dc_wi (dc_wi (dc_wi (dc_wi (dc_wi m (x0 + 3) (Int32.toNatClampNeg (m.1 x0 1)) x1) (x0 + 4) (Int32.toNatClampNeg ((dc_wi m (x0 + 3) (Int32.toNatClampNeg (m.1 x0 1)) x1).1 x0 1)) x2) (x0 + 5) (Int32.toNatClampNeg ((dc_wi (dc_wi m (x0 + 3) (Int32.toNatClampNeg (m.1 x0 1)) x1) (x0 + 4) (Int32.toNatClampNeg ((dc_wi m (x0 + 3) (Int32.toNatClampNeg (m.1 x0 1)) x1).1 x0 1)) x2).1 x0 1)) x3) (x0 + 6) (Int32.toNatClampNeg ((dc_wi (dc_wi (dc_wi m (x0 + 3) (Int32.toNatClampNeg (m.1 x0 1)) x1) (x0 + 4) (Int32.toNatClampNeg ((dc_wi m (x0 + 3) (Int32.toNatClampNeg (m.1 x0 1)) x1).1 x0 1)) x2) (x0 + 5) (Int32.toNatClampNeg ((dc_wi (dc_wi m (x0 + 3) (Int32.toNatClampNeg (m.1 x0 1)) x1) (x0 + 4) (Int32.toNatClampNeg ((dc_wi m (x0 + 3) (Int32.toNatClampNeg (m.1 x0 1)) x1).1 x0 1)) x2).1 x0 1)) x3).1 x0 1)) (0 : Int32)) (x0 + 7) (Int32.toNatClampNeg ((dc_wi (dc_wi (dc_wi (dc_wi m (x0 + 3) (Int32.toNatClampNeg (m.1 x0 1)) x1) (x0 + 4) (Int32.toNatClampNeg ((dc_wi m (x0 + 3) (Int32.toNatClampNeg (m.1 x0 1)) x1).1 x0 1)) x2) (x0 + 5) (Int32.toNatClampNeg ((dc_wi (dc_wi m (x0 + 3) (Int32.toNatClampNeg (m.1 x0 1)) x1) (x0 + 4) (Int32.toNatClampNeg ((dc_wi m (x0 + 3) (Int32.toNatClampNeg (m.1 x0 1)) x1).1 x0 1)) x2).1 x0 1)) x3) (x0 + 6) (Int32.toNatClampNeg ((dc_wi (dc_wi (dc_wi m (x0 + 3) (Int32.toNatClampNeg (m.1 x0 1)) x1) (x0 + 4) (Int32.toNatClampNeg ((dc_wi m (x0 + 3) (Int32.toNatClampNeg (m.1 x0 1)) x1).1 x0 1)) x2) (x0 + 5) (Int32.toNatClampNeg ((dc_wi (dc_wi m (x0 + 3) (Int32.toNatClampNeg (m.1 x0 1)) x1) (x0 + 4) (Int32.toNatClampNeg ((dc_wi m (x0 + 3) (Int32.toNatClampNeg (m.1 x0 1)) x1).1 x0 1)) x2).1 x0 1)) x3).1 x0 1)) (0 : Int32)).1 x0 1)) (0 : Int32)).1 x0 1)) (1 : Int32)) x0 1 (((dc_wi (dc_wi (dc_wi (dc_wi (dc_wi (dc_wi m (x0 + 3) (Int32.toNatClampNeg (m.1 x0 1)) x1) (x0 + 4) (Int32.toNatClampNeg ((dc_wi m (x0 + 3) (Int32.toNatClampNeg (m.1 x0 1)) x1).1 x0 1)) x2) (x0 + 5) (Int32.toNatClampNeg ((dc_wi (dc_wi m (x0 + 3) (Int32.toNatClampNeg (m.1 x0 1)) x1) (x0 + 4) (Int32.toNatClampNeg ((dc_wi m (x0 + 3) (Int32.toNatClampNeg (m.1 x0 1)) x1).1 x0 1)) x2).1 x0 1)) x3) (x0 + 6) (Int32.toNatClampNeg ((dc_wi (dc_wi (dc_wi m (x0 + 3) (Int32.toNatClampNeg (m.1 x0 1)) x1) (x0 + 4) (Int32.toNatClampNeg ((dc_wi m (x0 + 3) (Int32.toNatClampNeg (m.1 x0 1)) x1).1 x0 1)) x2) (x0 + 5) (Int32.toNatClampNeg ((dc_wi (dc_wi m (x0 + 3) (Int32.toNatClampNeg (m.1 x0 1)) x1) (x0 + 4) (Int32.toNatClampNeg ((dc_wi m (x0 + 3) (Int32.toNatClampNeg (m.1 x0 1)) x1).1 x0 1)) x2).1 x0 1)) x3).1 x0 1)) (0 : Int32)) (x0 + 7) (Int32.toNatClampNeg ((dc_wi (dc_wi (dc_wi (dc_wi m (x0 + 3) (Int32.toNatClampNeg (m.1 x0 1)) x1) (x0 + 4) (Int32.toNatClampNeg ((dc_wi m (x0 + 3) (Int32.toNatClampNeg (m.1 x0 1)) x1).1 x0 1)) x2) (x0 + 5) (Int32.toNatClampNeg ((dc_wi (dc_wi m (x0 + 3) (Int32.toNatClampNeg (m.1 x0 1)) x1) (x0 + 4) (Int32.toNatClampNeg ((dc_wi m (x0 + 3) (Int32.toNatClampNeg (m.1 x0 1)) x1).1 x0 1)) x2).1 x0 1)) x3) (x0 + 6) (Int32.toNatClampNeg ((dc_wi (dc_wi (dc_wi m (x0 + 3) (Int32.toNatClampNeg (m.1 x0 1)) x1) (x0 + 4) (Int32.toNatClampNeg ((dc_wi m (x0 + 3) (Int32.toNatClampNeg (m.1 x0 1)) x1).1 x0 1)) x2) (x0 + 5) (Int32.toNatClampNeg ((dc_wi (dc_wi m (x0 + 3) (Int32.toNatClampNeg (m.1 x0 1)) x1) (x0 + 4) (Int32.toNatClampNeg ((dc_wi m (x0 + 3) (Int32.toNatClampNeg (m.1 x0 1)) x1).1 x0 1)) x2).1 x0 1)) x3).1 x0 1)) (0 : Int32)).1 x0 1)) (0 : Int32)) (x0 + 8) (Int32.toNatClampNeg ((dc_wi (dc_wi (dc_wi (dc_wi (dc_wi m (x0 + 3) (Int32.toNatClampNeg (m.1 x0 1)) x1) (x0 + 4) (Int32.toNatClampNeg ((dc_wi m (x0 + 3) (Int32.toNatClampNeg (m.1 x0 1)) x1).1 x0 1)) x2) (x0 + 5) (Int32.toNatClampNeg ((dc_wi (dc_wi m (x0 + 3) (Int32.toNatClampNeg (m.1 x0 1)) x1) (x0 + 4) (Int32.toNatClampNeg ((dc_wi m (x0 + 3) (Int32.toNatClampNeg (m.1 x0 1)) x1).1 x0 1)) x2).1 x0 1)) x3) (x0 + 6) (Int32.toNatClampNeg ((dc_wi (dc_wi (dc_wi m (x0 + 3) (Int32.toNatClampNeg (m.1 x0 1)) x1) (x0 + 4) (Int32.toNatClampNeg ((dc_wi m (x0 + 3) (Int32.toNatClampNeg (m.1 x0 1)) x1).1 x0 1)) x2) (x0 + 5) (Int32.toNatClampNeg ((dc_wi (dc_wi m (x0 + 3) (Int32.toNatClampNeg (m.1 x0 1)) x1) (x0 + 4) (Int32.toNatClampNeg ((dc_wi m (x0 + 3) (Int32.toNatClampNeg (m.1 x0 1)) x1).1 x0 1)) x2).1 x0 1)) x3).1 x0 1)) (0 : Int32)) (x0 + 7) (Int32.toNatClampNeg ((dc_wi (dc_wi (dc_wi (dc_wi m (x0 + 3) (Int32.toNatClampNeg (m.1 x0 1)) x1) (x0 + 4) (Int32.toNatClampNeg ((dc_wi m (x0 + 3) (Int32.toNatClampNeg (m.1 x0 1)) x1).1 x0 1)) x2) (x0 + 5) (Int32.toNatClampNeg ((dc_wi (dc_wi m (x0 + 3) (Int32.toNatClampNeg (m.1 x0 1)) x1) (x0 + 4) (Int32.toNatClampNeg ((dc_wi m (x0 + 3) (Int32.toNatClampNeg (m.1 x0 1)) x1).1 x0 1)) x2).1 x0 1)) x3) (x0 + 6) (Int32.toNatClampNeg ((dc_wi (dc_wi (dc_wi m (x0 + 3) (Int32.toNatClampNeg (m.1 x0 1)) x1) (x0 + 4) (Int32.toNatClampNeg ((dc_wi m (x0 + 3) (Int32.toNatClampNeg (m.1 x0 1)) x1).1 x0 1)) x2) (x0 + 5) (Int32.toNatClampNeg ((dc_wi (dc_wi m (x0 + 3) (Int32.toNatClampNeg (m.1 x0 1)) x1) (x0 + 4) (Int32.toNatClampNeg ((dc_wi m (x0 + 3) (Int32.toNatClampNeg (m.1 x0 1)) x1).1 x0 1)) x2).1 x0 1)) x3).1 x0 1)) (0 : Int32)).1 x0 1)) (0 : Int32)).1 x0 1)) (1 : Int32)).1 x0 1) + (1 : Int32)))) else ((-4 : Int32), m))
set_option maxHeartbeats 8000000 in
theorem k_X3_addEvent {u : Nat} {N : Nat} {Φ : (Int32 × dc_M) → Option Value → dc_M → Prop} (x0 : Nat) (x1 : Int32) (x2 : Int32) (x3 : Int32) (m : dc_M) (kR : ∀ (v : Int32) (m : dc_M), Φ ((v, m)) (some (.int v)) m)  {lv : ab_L} (f0 : ab_lk lv 0 = some (.ref x0)) (f1 : ab_lk lv 1 = some (.int x1)) (f2 : ab_lk lv 2 = some (.int x2)) (f3 : ab_lk lv 3 = some (.int x3)) : dc_pv u N ab_M_X3_addEvent 0 lv [] m (Φ (d_X3_addEvent x0 x1 x2 x3 m)) := by
  refine dc_pv.mono (dc_ok (C := C_X3_addEvent) (S := S_X3_addEvent) CO_X3_addEvent 400 0 [(0, .ref x0), (1, .int x1), (2, .int x2), (3, .int x3)] lv [] m (dc_sub_cons f0 (dc_sub_cons f1 (dc_sub_cons f2 (dc_sub_cons f3 (dc_sub_nil))))) ?_) (Nat.le_succ N)
  unfold d_X3_addEvent
  refine dg_s (pc' := 1) [.ref x0] rfl (fun _ => rfl) rfl ?_
  refine dg_s (pc' := 4) [.int (m.1 x0 1)] rfl (fun _ => rfl) rfl ?_
  refine dg_s (pc' := 6) [.int (16 : Int32), .int (m.1 x0 1)] rfl (fun _ => rfl) rfl ?_
  refine dw_if (fun t => Φ t) ((Int32.toInt (m.1 x0 1)) < 16) [] 12 9 rfl (fun _ => rfl) (fun c0 => ?_) (fun c0 => ?_)
  · refine dw_g rfl ?_
    refine dg_s (pc' := 13) [.ref x0] rfl (fun _ => rfl) rfl ?_
    refine dg_s (pc' := 16) [.ref (x0 + 3)] rfl (fun _ => rfl) rfl ?_
    refine dg_s (pc' := 17) [.ref x0, .ref (x0 + 3)] rfl (fun _ => rfl) rfl ?_
    refine dg_s (pc' := 20) [.int (m.1 x0 1), .ref (x0 + 3)] rfl (fun _ => rfl) rfl ?_
    refine dg_s (pc' := 21) [.int x1, .int (m.1 x0 1), .ref (x0 + 3)] rfl (fun _ => rfl) rfl ?_
    refine dg_m (pc' := 22) (dc_wi m (x0 + 3) (Int32.toNatClampNeg (m.1 x0 1)) x1) [] rfl (fun _ => rfl) rfl ?_
    refine dg_s (pc' := 23) [.ref x0] rfl (fun _ => rfl) rfl ?_
    refine dg_s (pc' := 26) [.ref (x0 + 4)] rfl (fun _ => rfl) rfl ?_
    refine dg_s (pc' := 27) [.ref x0, .ref (x0 + 4)] rfl (fun _ => rfl) rfl ?_
    refine dg_s (pc' := 30) [.int ((dc_wi m (x0 + 3) (Int32.toNatClampNeg (m.1 x0 1)) x1).1 x0 1), .ref (x0 + 4)] rfl (fun _ => rfl) rfl ?_
    refine dg_s (pc' := 31) [.int x2, .int ((dc_wi m (x0 + 3) (Int32.toNatClampNeg (m.1 x0 1)) x1).1 x0 1), .ref (x0 + 4)] rfl (fun _ => rfl) rfl ?_
    refine dg_m (pc' := 32) (dc_wi (dc_wi m (x0 + 3) (Int32.toNatClampNeg (m.1 x0 1)) x1) (x0 + 4) (Int32.toNatClampNeg ((dc_wi m (x0 + 3) (Int32.toNatClampNeg (m.1 x0 1)) x1).1 x0 1)) x2) [] rfl (fun _ => rfl) rfl ?_
    refine dg_s (pc' := 33) [.ref x0] rfl (fun _ => rfl) rfl ?_
    refine dg_s (pc' := 36) [.ref (x0 + 5)] rfl (fun _ => rfl) rfl ?_
    refine dg_s (pc' := 37) [.ref x0, .ref (x0 + 5)] rfl (fun _ => rfl) rfl ?_
    refine dg_s (pc' := 40) [.int ((dc_wi (dc_wi m (x0 + 3) (Int32.toNatClampNeg (m.1 x0 1)) x1) (x0 + 4) (Int32.toNatClampNeg ((dc_wi m (x0 + 3) (Int32.toNatClampNeg (m.1 x0 1)) x1).1 x0 1)) x2).1 x0 1), .ref (x0 + 5)] rfl (fun _ => rfl) rfl ?_
    refine dg_s (pc' := 41) [.int x3, .int ((dc_wi (dc_wi m (x0 + 3) (Int32.toNatClampNeg (m.1 x0 1)) x1) (x0 + 4) (Int32.toNatClampNeg ((dc_wi m (x0 + 3) (Int32.toNatClampNeg (m.1 x0 1)) x1).1 x0 1)) x2).1 x0 1), .ref (x0 + 5)] rfl (fun _ => rfl) rfl ?_
    refine dg_m (pc' := 42) (dc_wi (dc_wi (dc_wi m (x0 + 3) (Int32.toNatClampNeg (m.1 x0 1)) x1) (x0 + 4) (Int32.toNatClampNeg ((dc_wi m (x0 + 3) (Int32.toNatClampNeg (m.1 x0 1)) x1).1 x0 1)) x2) (x0 + 5) (Int32.toNatClampNeg ((dc_wi (dc_wi m (x0 + 3) (Int32.toNatClampNeg (m.1 x0 1)) x1) (x0 + 4) (Int32.toNatClampNeg ((dc_wi m (x0 + 3) (Int32.toNatClampNeg (m.1 x0 1)) x1).1 x0 1)) x2).1 x0 1)) x3) [] rfl (fun _ => rfl) rfl ?_
    refine dg_s (pc' := 43) [.ref x0] rfl (fun _ => rfl) rfl ?_
    refine dg_s (pc' := 46) [.ref (x0 + 6)] rfl (fun _ => rfl) rfl ?_
    refine dg_s (pc' := 47) [.ref x0, .ref (x0 + 6)] rfl (fun _ => rfl) rfl ?_
    refine dg_s (pc' := 50) [.int ((dc_wi (dc_wi (dc_wi m (x0 + 3) (Int32.toNatClampNeg (m.1 x0 1)) x1) (x0 + 4) (Int32.toNatClampNeg ((dc_wi m (x0 + 3) (Int32.toNatClampNeg (m.1 x0 1)) x1).1 x0 1)) x2) (x0 + 5) (Int32.toNatClampNeg ((dc_wi (dc_wi m (x0 + 3) (Int32.toNatClampNeg (m.1 x0 1)) x1) (x0 + 4) (Int32.toNatClampNeg ((dc_wi m (x0 + 3) (Int32.toNatClampNeg (m.1 x0 1)) x1).1 x0 1)) x2).1 x0 1)) x3).1 x0 1), .ref (x0 + 6)] rfl (fun _ => rfl) rfl ?_
    refine dg_s (pc' := 51) [.int (0 : Int32), .int ((dc_wi (dc_wi (dc_wi m (x0 + 3) (Int32.toNatClampNeg (m.1 x0 1)) x1) (x0 + 4) (Int32.toNatClampNeg ((dc_wi m (x0 + 3) (Int32.toNatClampNeg (m.1 x0 1)) x1).1 x0 1)) x2) (x0 + 5) (Int32.toNatClampNeg ((dc_wi (dc_wi m (x0 + 3) (Int32.toNatClampNeg (m.1 x0 1)) x1) (x0 + 4) (Int32.toNatClampNeg ((dc_wi m (x0 + 3) (Int32.toNatClampNeg (m.1 x0 1)) x1).1 x0 1)) x2).1 x0 1)) x3).1 x0 1), .ref (x0 + 6)] rfl (fun _ => rfl) rfl ?_
    refine dg_m (pc' := 52) (dc_wi (dc_wi (dc_wi (dc_wi m (x0 + 3) (Int32.toNatClampNeg (m.1 x0 1)) x1) (x0 + 4) (Int32.toNatClampNeg ((dc_wi m (x0 + 3) (Int32.toNatClampNeg (m.1 x0 1)) x1).1 x0 1)) x2) (x0 + 5) (Int32.toNatClampNeg ((dc_wi (dc_wi m (x0 + 3) (Int32.toNatClampNeg (m.1 x0 1)) x1) (x0 + 4) (Int32.toNatClampNeg ((dc_wi m (x0 + 3) (Int32.toNatClampNeg (m.1 x0 1)) x1).1 x0 1)) x2).1 x0 1)) x3) (x0 + 6) (Int32.toNatClampNeg ((dc_wi (dc_wi (dc_wi m (x0 + 3) (Int32.toNatClampNeg (m.1 x0 1)) x1) (x0 + 4) (Int32.toNatClampNeg ((dc_wi m (x0 + 3) (Int32.toNatClampNeg (m.1 x0 1)) x1).1 x0 1)) x2) (x0 + 5) (Int32.toNatClampNeg ((dc_wi (dc_wi m (x0 + 3) (Int32.toNatClampNeg (m.1 x0 1)) x1) (x0 + 4) (Int32.toNatClampNeg ((dc_wi m (x0 + 3) (Int32.toNatClampNeg (m.1 x0 1)) x1).1 x0 1)) x2).1 x0 1)) x3).1 x0 1)) (0 : Int32)) [] rfl (fun _ => rfl) rfl ?_
    refine dg_s (pc' := 53) [.ref x0] rfl (fun _ => rfl) rfl ?_
    refine dg_s (pc' := 56) [.ref (x0 + 7)] rfl (fun _ => rfl) rfl ?_
    refine dg_s (pc' := 57) [.ref x0, .ref (x0 + 7)] rfl (fun _ => rfl) rfl ?_
    refine dg_s (pc' := 60) [.int ((dc_wi (dc_wi (dc_wi (dc_wi m (x0 + 3) (Int32.toNatClampNeg (m.1 x0 1)) x1) (x0 + 4) (Int32.toNatClampNeg ((dc_wi m (x0 + 3) (Int32.toNatClampNeg (m.1 x0 1)) x1).1 x0 1)) x2) (x0 + 5) (Int32.toNatClampNeg ((dc_wi (dc_wi m (x0 + 3) (Int32.toNatClampNeg (m.1 x0 1)) x1) (x0 + 4) (Int32.toNatClampNeg ((dc_wi m (x0 + 3) (Int32.toNatClampNeg (m.1 x0 1)) x1).1 x0 1)) x2).1 x0 1)) x3) (x0 + 6) (Int32.toNatClampNeg ((dc_wi (dc_wi (dc_wi m (x0 + 3) (Int32.toNatClampNeg (m.1 x0 1)) x1) (x0 + 4) (Int32.toNatClampNeg ((dc_wi m (x0 + 3) (Int32.toNatClampNeg (m.1 x0 1)) x1).1 x0 1)) x2) (x0 + 5) (Int32.toNatClampNeg ((dc_wi (dc_wi m (x0 + 3) (Int32.toNatClampNeg (m.1 x0 1)) x1) (x0 + 4) (Int32.toNatClampNeg ((dc_wi m (x0 + 3) (Int32.toNatClampNeg (m.1 x0 1)) x1).1 x0 1)) x2).1 x0 1)) x3).1 x0 1)) (0 : Int32)).1 x0 1), .ref (x0 + 7)] rfl (fun _ => rfl) rfl ?_
    refine dg_s (pc' := 61) [.int (0 : Int32), .int ((dc_wi (dc_wi (dc_wi (dc_wi m (x0 + 3) (Int32.toNatClampNeg (m.1 x0 1)) x1) (x0 + 4) (Int32.toNatClampNeg ((dc_wi m (x0 + 3) (Int32.toNatClampNeg (m.1 x0 1)) x1).1 x0 1)) x2) (x0 + 5) (Int32.toNatClampNeg ((dc_wi (dc_wi m (x0 + 3) (Int32.toNatClampNeg (m.1 x0 1)) x1) (x0 + 4) (Int32.toNatClampNeg ((dc_wi m (x0 + 3) (Int32.toNatClampNeg (m.1 x0 1)) x1).1 x0 1)) x2).1 x0 1)) x3) (x0 + 6) (Int32.toNatClampNeg ((dc_wi (dc_wi (dc_wi m (x0 + 3) (Int32.toNatClampNeg (m.1 x0 1)) x1) (x0 + 4) (Int32.toNatClampNeg ((dc_wi m (x0 + 3) (Int32.toNatClampNeg (m.1 x0 1)) x1).1 x0 1)) x2) (x0 + 5) (Int32.toNatClampNeg ((dc_wi (dc_wi m (x0 + 3) (Int32.toNatClampNeg (m.1 x0 1)) x1) (x0 + 4) (Int32.toNatClampNeg ((dc_wi m (x0 + 3) (Int32.toNatClampNeg (m.1 x0 1)) x1).1 x0 1)) x2).1 x0 1)) x3).1 x0 1)) (0 : Int32)).1 x0 1), .ref (x0 + 7)] rfl (fun _ => rfl) rfl ?_
    refine dg_m (pc' := 62) (dc_wi (dc_wi (dc_wi (dc_wi (dc_wi m (x0 + 3) (Int32.toNatClampNeg (m.1 x0 1)) x1) (x0 + 4) (Int32.toNatClampNeg ((dc_wi m (x0 + 3) (Int32.toNatClampNeg (m.1 x0 1)) x1).1 x0 1)) x2) (x0 + 5) (Int32.toNatClampNeg ((dc_wi (dc_wi m (x0 + 3) (Int32.toNatClampNeg (m.1 x0 1)) x1) (x0 + 4) (Int32.toNatClampNeg ((dc_wi m (x0 + 3) (Int32.toNatClampNeg (m.1 x0 1)) x1).1 x0 1)) x2).1 x0 1)) x3) (x0 + 6) (Int32.toNatClampNeg ((dc_wi (dc_wi (dc_wi m (x0 + 3) (Int32.toNatClampNeg (m.1 x0 1)) x1) (x0 + 4) (Int32.toNatClampNeg ((dc_wi m (x0 + 3) (Int32.toNatClampNeg (m.1 x0 1)) x1).1 x0 1)) x2) (x0 + 5) (Int32.toNatClampNeg ((dc_wi (dc_wi m (x0 + 3) (Int32.toNatClampNeg (m.1 x0 1)) x1) (x0 + 4) (Int32.toNatClampNeg ((dc_wi m (x0 + 3) (Int32.toNatClampNeg (m.1 x0 1)) x1).1 x0 1)) x2).1 x0 1)) x3).1 x0 1)) (0 : Int32)) (x0 + 7) (Int32.toNatClampNeg ((dc_wi (dc_wi (dc_wi (dc_wi m (x0 + 3) (Int32.toNatClampNeg (m.1 x0 1)) x1) (x0 + 4) (Int32.toNatClampNeg ((dc_wi m (x0 + 3) (Int32.toNatClampNeg (m.1 x0 1)) x1).1 x0 1)) x2) (x0 + 5) (Int32.toNatClampNeg ((dc_wi (dc_wi m (x0 + 3) (Int32.toNatClampNeg (m.1 x0 1)) x1) (x0 + 4) (Int32.toNatClampNeg ((dc_wi m (x0 + 3) (Int32.toNatClampNeg (m.1 x0 1)) x1).1 x0 1)) x2).1 x0 1)) x3) (x0 + 6) (Int32.toNatClampNeg ((dc_wi (dc_wi (dc_wi m (x0 + 3) (Int32.toNatClampNeg (m.1 x0 1)) x1) (x0 + 4) (Int32.toNatClampNeg ((dc_wi m (x0 + 3) (Int32.toNatClampNeg (m.1 x0 1)) x1).1 x0 1)) x2) (x0 + 5) (Int32.toNatClampNeg ((dc_wi (dc_wi m (x0 + 3) (Int32.toNatClampNeg (m.1 x0 1)) x1) (x0 + 4) (Int32.toNatClampNeg ((dc_wi m (x0 + 3) (Int32.toNatClampNeg (m.1 x0 1)) x1).1 x0 1)) x2).1 x0 1)) x3).1 x0 1)) (0 : Int32)).1 x0 1)) (0 : Int32)) [] rfl (fun _ => rfl) rfl ?_
    refine dg_s (pc' := 63) [.ref x0] rfl (fun _ => rfl) rfl ?_
    refine dg_s (pc' := 66) [.ref (x0 + 8)] rfl (fun _ => rfl) rfl ?_
    refine dg_s (pc' := 67) [.ref x0, .ref (x0 + 8)] rfl (fun _ => rfl) rfl ?_
    refine dg_s (pc' := 70) [.int ((dc_wi (dc_wi (dc_wi (dc_wi (dc_wi m (x0 + 3) (Int32.toNatClampNeg (m.1 x0 1)) x1) (x0 + 4) (Int32.toNatClampNeg ((dc_wi m (x0 + 3) (Int32.toNatClampNeg (m.1 x0 1)) x1).1 x0 1)) x2) (x0 + 5) (Int32.toNatClampNeg ((dc_wi (dc_wi m (x0 + 3) (Int32.toNatClampNeg (m.1 x0 1)) x1) (x0 + 4) (Int32.toNatClampNeg ((dc_wi m (x0 + 3) (Int32.toNatClampNeg (m.1 x0 1)) x1).1 x0 1)) x2).1 x0 1)) x3) (x0 + 6) (Int32.toNatClampNeg ((dc_wi (dc_wi (dc_wi m (x0 + 3) (Int32.toNatClampNeg (m.1 x0 1)) x1) (x0 + 4) (Int32.toNatClampNeg ((dc_wi m (x0 + 3) (Int32.toNatClampNeg (m.1 x0 1)) x1).1 x0 1)) x2) (x0 + 5) (Int32.toNatClampNeg ((dc_wi (dc_wi m (x0 + 3) (Int32.toNatClampNeg (m.1 x0 1)) x1) (x0 + 4) (Int32.toNatClampNeg ((dc_wi m (x0 + 3) (Int32.toNatClampNeg (m.1 x0 1)) x1).1 x0 1)) x2).1 x0 1)) x3).1 x0 1)) (0 : Int32)) (x0 + 7) (Int32.toNatClampNeg ((dc_wi (dc_wi (dc_wi (dc_wi m (x0 + 3) (Int32.toNatClampNeg (m.1 x0 1)) x1) (x0 + 4) (Int32.toNatClampNeg ((dc_wi m (x0 + 3) (Int32.toNatClampNeg (m.1 x0 1)) x1).1 x0 1)) x2) (x0 + 5) (Int32.toNatClampNeg ((dc_wi (dc_wi m (x0 + 3) (Int32.toNatClampNeg (m.1 x0 1)) x1) (x0 + 4) (Int32.toNatClampNeg ((dc_wi m (x0 + 3) (Int32.toNatClampNeg (m.1 x0 1)) x1).1 x0 1)) x2).1 x0 1)) x3) (x0 + 6) (Int32.toNatClampNeg ((dc_wi (dc_wi (dc_wi m (x0 + 3) (Int32.toNatClampNeg (m.1 x0 1)) x1) (x0 + 4) (Int32.toNatClampNeg ((dc_wi m (x0 + 3) (Int32.toNatClampNeg (m.1 x0 1)) x1).1 x0 1)) x2) (x0 + 5) (Int32.toNatClampNeg ((dc_wi (dc_wi m (x0 + 3) (Int32.toNatClampNeg (m.1 x0 1)) x1) (x0 + 4) (Int32.toNatClampNeg ((dc_wi m (x0 + 3) (Int32.toNatClampNeg (m.1 x0 1)) x1).1 x0 1)) x2).1 x0 1)) x3).1 x0 1)) (0 : Int32)).1 x0 1)) (0 : Int32)).1 x0 1), .ref (x0 + 8)] rfl (fun _ => rfl) rfl ?_
    refine dg_s (pc' := 71) [.int (1 : Int32), .int ((dc_wi (dc_wi (dc_wi (dc_wi (dc_wi m (x0 + 3) (Int32.toNatClampNeg (m.1 x0 1)) x1) (x0 + 4) (Int32.toNatClampNeg ((dc_wi m (x0 + 3) (Int32.toNatClampNeg (m.1 x0 1)) x1).1 x0 1)) x2) (x0 + 5) (Int32.toNatClampNeg ((dc_wi (dc_wi m (x0 + 3) (Int32.toNatClampNeg (m.1 x0 1)) x1) (x0 + 4) (Int32.toNatClampNeg ((dc_wi m (x0 + 3) (Int32.toNatClampNeg (m.1 x0 1)) x1).1 x0 1)) x2).1 x0 1)) x3) (x0 + 6) (Int32.toNatClampNeg ((dc_wi (dc_wi (dc_wi m (x0 + 3) (Int32.toNatClampNeg (m.1 x0 1)) x1) (x0 + 4) (Int32.toNatClampNeg ((dc_wi m (x0 + 3) (Int32.toNatClampNeg (m.1 x0 1)) x1).1 x0 1)) x2) (x0 + 5) (Int32.toNatClampNeg ((dc_wi (dc_wi m (x0 + 3) (Int32.toNatClampNeg (m.1 x0 1)) x1) (x0 + 4) (Int32.toNatClampNeg ((dc_wi m (x0 + 3) (Int32.toNatClampNeg (m.1 x0 1)) x1).1 x0 1)) x2).1 x0 1)) x3).1 x0 1)) (0 : Int32)) (x0 + 7) (Int32.toNatClampNeg ((dc_wi (dc_wi (dc_wi (dc_wi m (x0 + 3) (Int32.toNatClampNeg (m.1 x0 1)) x1) (x0 + 4) (Int32.toNatClampNeg ((dc_wi m (x0 + 3) (Int32.toNatClampNeg (m.1 x0 1)) x1).1 x0 1)) x2) (x0 + 5) (Int32.toNatClampNeg ((dc_wi (dc_wi m (x0 + 3) (Int32.toNatClampNeg (m.1 x0 1)) x1) (x0 + 4) (Int32.toNatClampNeg ((dc_wi m (x0 + 3) (Int32.toNatClampNeg (m.1 x0 1)) x1).1 x0 1)) x2).1 x0 1)) x3) (x0 + 6) (Int32.toNatClampNeg ((dc_wi (dc_wi (dc_wi m (x0 + 3) (Int32.toNatClampNeg (m.1 x0 1)) x1) (x0 + 4) (Int32.toNatClampNeg ((dc_wi m (x0 + 3) (Int32.toNatClampNeg (m.1 x0 1)) x1).1 x0 1)) x2) (x0 + 5) (Int32.toNatClampNeg ((dc_wi (dc_wi m (x0 + 3) (Int32.toNatClampNeg (m.1 x0 1)) x1) (x0 + 4) (Int32.toNatClampNeg ((dc_wi m (x0 + 3) (Int32.toNatClampNeg (m.1 x0 1)) x1).1 x0 1)) x2).1 x0 1)) x3).1 x0 1)) (0 : Int32)).1 x0 1)) (0 : Int32)).1 x0 1), .ref (x0 + 8)] rfl (fun _ => rfl) rfl ?_
    refine dg_m (pc' := 72) (dc_wi (dc_wi (dc_wi (dc_wi (dc_wi (dc_wi m (x0 + 3) (Int32.toNatClampNeg (m.1 x0 1)) x1) (x0 + 4) (Int32.toNatClampNeg ((dc_wi m (x0 + 3) (Int32.toNatClampNeg (m.1 x0 1)) x1).1 x0 1)) x2) (x0 + 5) (Int32.toNatClampNeg ((dc_wi (dc_wi m (x0 + 3) (Int32.toNatClampNeg (m.1 x0 1)) x1) (x0 + 4) (Int32.toNatClampNeg ((dc_wi m (x0 + 3) (Int32.toNatClampNeg (m.1 x0 1)) x1).1 x0 1)) x2).1 x0 1)) x3) (x0 + 6) (Int32.toNatClampNeg ((dc_wi (dc_wi (dc_wi m (x0 + 3) (Int32.toNatClampNeg (m.1 x0 1)) x1) (x0 + 4) (Int32.toNatClampNeg ((dc_wi m (x0 + 3) (Int32.toNatClampNeg (m.1 x0 1)) x1).1 x0 1)) x2) (x0 + 5) (Int32.toNatClampNeg ((dc_wi (dc_wi m (x0 + 3) (Int32.toNatClampNeg (m.1 x0 1)) x1) (x0 + 4) (Int32.toNatClampNeg ((dc_wi m (x0 + 3) (Int32.toNatClampNeg (m.1 x0 1)) x1).1 x0 1)) x2).1 x0 1)) x3).1 x0 1)) (0 : Int32)) (x0 + 7) (Int32.toNatClampNeg ((dc_wi (dc_wi (dc_wi (dc_wi m (x0 + 3) (Int32.toNatClampNeg (m.1 x0 1)) x1) (x0 + 4) (Int32.toNatClampNeg ((dc_wi m (x0 + 3) (Int32.toNatClampNeg (m.1 x0 1)) x1).1 x0 1)) x2) (x0 + 5) (Int32.toNatClampNeg ((dc_wi (dc_wi m (x0 + 3) (Int32.toNatClampNeg (m.1 x0 1)) x1) (x0 + 4) (Int32.toNatClampNeg ((dc_wi m (x0 + 3) (Int32.toNatClampNeg (m.1 x0 1)) x1).1 x0 1)) x2).1 x0 1)) x3) (x0 + 6) (Int32.toNatClampNeg ((dc_wi (dc_wi (dc_wi m (x0 + 3) (Int32.toNatClampNeg (m.1 x0 1)) x1) (x0 + 4) (Int32.toNatClampNeg ((dc_wi m (x0 + 3) (Int32.toNatClampNeg (m.1 x0 1)) x1).1 x0 1)) x2) (x0 + 5) (Int32.toNatClampNeg ((dc_wi (dc_wi m (x0 + 3) (Int32.toNatClampNeg (m.1 x0 1)) x1) (x0 + 4) (Int32.toNatClampNeg ((dc_wi m (x0 + 3) (Int32.toNatClampNeg (m.1 x0 1)) x1).1 x0 1)) x2).1 x0 1)) x3).1 x0 1)) (0 : Int32)).1 x0 1)) (0 : Int32)) (x0 + 8) (Int32.toNatClampNeg ((dc_wi (dc_wi (dc_wi (dc_wi (dc_wi m (x0 + 3) (Int32.toNatClampNeg (m.1 x0 1)) x1) (x0 + 4) (Int32.toNatClampNeg ((dc_wi m (x0 + 3) (Int32.toNatClampNeg (m.1 x0 1)) x1).1 x0 1)) x2) (x0 + 5) (Int32.toNatClampNeg ((dc_wi (dc_wi m (x0 + 3) (Int32.toNatClampNeg (m.1 x0 1)) x1) (x0 + 4) (Int32.toNatClampNeg ((dc_wi m (x0 + 3) (Int32.toNatClampNeg (m.1 x0 1)) x1).1 x0 1)) x2).1 x0 1)) x3) (x0 + 6) (Int32.toNatClampNeg ((dc_wi (dc_wi (dc_wi m (x0 + 3) (Int32.toNatClampNeg (m.1 x0 1)) x1) (x0 + 4) (Int32.toNatClampNeg ((dc_wi m (x0 + 3) (Int32.toNatClampNeg (m.1 x0 1)) x1).1 x0 1)) x2) (x0 + 5) (Int32.toNatClampNeg ((dc_wi (dc_wi m (x0 + 3) (Int32.toNatClampNeg (m.1 x0 1)) x1) (x0 + 4) (Int32.toNatClampNeg ((dc_wi m (x0 + 3) (Int32.toNatClampNeg (m.1 x0 1)) x1).1 x0 1)) x2).1 x0 1)) x3).1 x0 1)) (0 : Int32)) (x0 + 7) (Int32.toNatClampNeg ((dc_wi (dc_wi (dc_wi (dc_wi m (x0 + 3) (Int32.toNatClampNeg (m.1 x0 1)) x1) (x0 + 4) (Int32.toNatClampNeg ((dc_wi m (x0 + 3) (Int32.toNatClampNeg (m.1 x0 1)) x1).1 x0 1)) x2) (x0 + 5) (Int32.toNatClampNeg ((dc_wi (dc_wi m (x0 + 3) (Int32.toNatClampNeg (m.1 x0 1)) x1) (x0 + 4) (Int32.toNatClampNeg ((dc_wi m (x0 + 3) (Int32.toNatClampNeg (m.1 x0 1)) x1).1 x0 1)) x2).1 x0 1)) x3) (x0 + 6) (Int32.toNatClampNeg ((dc_wi (dc_wi (dc_wi m (x0 + 3) (Int32.toNatClampNeg (m.1 x0 1)) x1) (x0 + 4) (Int32.toNatClampNeg ((dc_wi m (x0 + 3) (Int32.toNatClampNeg (m.1 x0 1)) x1).1 x0 1)) x2) (x0 + 5) (Int32.toNatClampNeg ((dc_wi (dc_wi m (x0 + 3) (Int32.toNatClampNeg (m.1 x0 1)) x1) (x0 + 4) (Int32.toNatClampNeg ((dc_wi m (x0 + 3) (Int32.toNatClampNeg (m.1 x0 1)) x1).1 x0 1)) x2).1 x0 1)) x3).1 x0 1)) (0 : Int32)).1 x0 1)) (0 : Int32)).1 x0 1)) (1 : Int32)) [] rfl (fun _ => rfl) rfl ?_
    refine dg_s (pc' := 73) [.ref x0] rfl (fun _ => rfl) rfl ?_
    refine dg_s (pc' := 74) [.ref x0, .ref x0] rfl (fun _ => rfl) rfl ?_
    refine dg_s (pc' := 77) [.int ((dc_wi (dc_wi (dc_wi (dc_wi (dc_wi (dc_wi m (x0 + 3) (Int32.toNatClampNeg (m.1 x0 1)) x1) (x0 + 4) (Int32.toNatClampNeg ((dc_wi m (x0 + 3) (Int32.toNatClampNeg (m.1 x0 1)) x1).1 x0 1)) x2) (x0 + 5) (Int32.toNatClampNeg ((dc_wi (dc_wi m (x0 + 3) (Int32.toNatClampNeg (m.1 x0 1)) x1) (x0 + 4) (Int32.toNatClampNeg ((dc_wi m (x0 + 3) (Int32.toNatClampNeg (m.1 x0 1)) x1).1 x0 1)) x2).1 x0 1)) x3) (x0 + 6) (Int32.toNatClampNeg ((dc_wi (dc_wi (dc_wi m (x0 + 3) (Int32.toNatClampNeg (m.1 x0 1)) x1) (x0 + 4) (Int32.toNatClampNeg ((dc_wi m (x0 + 3) (Int32.toNatClampNeg (m.1 x0 1)) x1).1 x0 1)) x2) (x0 + 5) (Int32.toNatClampNeg ((dc_wi (dc_wi m (x0 + 3) (Int32.toNatClampNeg (m.1 x0 1)) x1) (x0 + 4) (Int32.toNatClampNeg ((dc_wi m (x0 + 3) (Int32.toNatClampNeg (m.1 x0 1)) x1).1 x0 1)) x2).1 x0 1)) x3).1 x0 1)) (0 : Int32)) (x0 + 7) (Int32.toNatClampNeg ((dc_wi (dc_wi (dc_wi (dc_wi m (x0 + 3) (Int32.toNatClampNeg (m.1 x0 1)) x1) (x0 + 4) (Int32.toNatClampNeg ((dc_wi m (x0 + 3) (Int32.toNatClampNeg (m.1 x0 1)) x1).1 x0 1)) x2) (x0 + 5) (Int32.toNatClampNeg ((dc_wi (dc_wi m (x0 + 3) (Int32.toNatClampNeg (m.1 x0 1)) x1) (x0 + 4) (Int32.toNatClampNeg ((dc_wi m (x0 + 3) (Int32.toNatClampNeg (m.1 x0 1)) x1).1 x0 1)) x2).1 x0 1)) x3) (x0 + 6) (Int32.toNatClampNeg ((dc_wi (dc_wi (dc_wi m (x0 + 3) (Int32.toNatClampNeg (m.1 x0 1)) x1) (x0 + 4) (Int32.toNatClampNeg ((dc_wi m (x0 + 3) (Int32.toNatClampNeg (m.1 x0 1)) x1).1 x0 1)) x2) (x0 + 5) (Int32.toNatClampNeg ((dc_wi (dc_wi m (x0 + 3) (Int32.toNatClampNeg (m.1 x0 1)) x1) (x0 + 4) (Int32.toNatClampNeg ((dc_wi m (x0 + 3) (Int32.toNatClampNeg (m.1 x0 1)) x1).1 x0 1)) x2).1 x0 1)) x3).1 x0 1)) (0 : Int32)).1 x0 1)) (0 : Int32)) (x0 + 8) (Int32.toNatClampNeg ((dc_wi (dc_wi (dc_wi (dc_wi (dc_wi m (x0 + 3) (Int32.toNatClampNeg (m.1 x0 1)) x1) (x0 + 4) (Int32.toNatClampNeg ((dc_wi m (x0 + 3) (Int32.toNatClampNeg (m.1 x0 1)) x1).1 x0 1)) x2) (x0 + 5) (Int32.toNatClampNeg ((dc_wi (dc_wi m (x0 + 3) (Int32.toNatClampNeg (m.1 x0 1)) x1) (x0 + 4) (Int32.toNatClampNeg ((dc_wi m (x0 + 3) (Int32.toNatClampNeg (m.1 x0 1)) x1).1 x0 1)) x2).1 x0 1)) x3) (x0 + 6) (Int32.toNatClampNeg ((dc_wi (dc_wi (dc_wi m (x0 + 3) (Int32.toNatClampNeg (m.1 x0 1)) x1) (x0 + 4) (Int32.toNatClampNeg ((dc_wi m (x0 + 3) (Int32.toNatClampNeg (m.1 x0 1)) x1).1 x0 1)) x2) (x0 + 5) (Int32.toNatClampNeg ((dc_wi (dc_wi m (x0 + 3) (Int32.toNatClampNeg (m.1 x0 1)) x1) (x0 + 4) (Int32.toNatClampNeg ((dc_wi m (x0 + 3) (Int32.toNatClampNeg (m.1 x0 1)) x1).1 x0 1)) x2).1 x0 1)) x3).1 x0 1)) (0 : Int32)) (x0 + 7) (Int32.toNatClampNeg ((dc_wi (dc_wi (dc_wi (dc_wi m (x0 + 3) (Int32.toNatClampNeg (m.1 x0 1)) x1) (x0 + 4) (Int32.toNatClampNeg ((dc_wi m (x0 + 3) (Int32.toNatClampNeg (m.1 x0 1)) x1).1 x0 1)) x2) (x0 + 5) (Int32.toNatClampNeg ((dc_wi (dc_wi m (x0 + 3) (Int32.toNatClampNeg (m.1 x0 1)) x1) (x0 + 4) (Int32.toNatClampNeg ((dc_wi m (x0 + 3) (Int32.toNatClampNeg (m.1 x0 1)) x1).1 x0 1)) x2).1 x0 1)) x3) (x0 + 6) (Int32.toNatClampNeg ((dc_wi (dc_wi (dc_wi m (x0 + 3) (Int32.toNatClampNeg (m.1 x0 1)) x1) (x0 + 4) (Int32.toNatClampNeg ((dc_wi m (x0 + 3) (Int32.toNatClampNeg (m.1 x0 1)) x1).1 x0 1)) x2) (x0 + 5) (Int32.toNatClampNeg ((dc_wi (dc_wi m (x0 + 3) (Int32.toNatClampNeg (m.1 x0 1)) x1) (x0 + 4) (Int32.toNatClampNeg ((dc_wi m (x0 + 3) (Int32.toNatClampNeg (m.1 x0 1)) x1).1 x0 1)) x2).1 x0 1)) x3).1 x0 1)) (0 : Int32)).1 x0 1)) (0 : Int32)).1 x0 1)) (1 : Int32)).1 x0 1), .ref x0] rfl (fun _ => rfl) rfl ?_
    refine dg_s (pc' := 78) [.int ((dc_wi (dc_wi (dc_wi (dc_wi (dc_wi (dc_wi m (x0 + 3) (Int32.toNatClampNeg (m.1 x0 1)) x1) (x0 + 4) (Int32.toNatClampNeg ((dc_wi m (x0 + 3) (Int32.toNatClampNeg (m.1 x0 1)) x1).1 x0 1)) x2) (x0 + 5) (Int32.toNatClampNeg ((dc_wi (dc_wi m (x0 + 3) (Int32.toNatClampNeg (m.1 x0 1)) x1) (x0 + 4) (Int32.toNatClampNeg ((dc_wi m (x0 + 3) (Int32.toNatClampNeg (m.1 x0 1)) x1).1 x0 1)) x2).1 x0 1)) x3) (x0 + 6) (Int32.toNatClampNeg ((dc_wi (dc_wi (dc_wi m (x0 + 3) (Int32.toNatClampNeg (m.1 x0 1)) x1) (x0 + 4) (Int32.toNatClampNeg ((dc_wi m (x0 + 3) (Int32.toNatClampNeg (m.1 x0 1)) x1).1 x0 1)) x2) (x0 + 5) (Int32.toNatClampNeg ((dc_wi (dc_wi m (x0 + 3) (Int32.toNatClampNeg (m.1 x0 1)) x1) (x0 + 4) (Int32.toNatClampNeg ((dc_wi m (x0 + 3) (Int32.toNatClampNeg (m.1 x0 1)) x1).1 x0 1)) x2).1 x0 1)) x3).1 x0 1)) (0 : Int32)) (x0 + 7) (Int32.toNatClampNeg ((dc_wi (dc_wi (dc_wi (dc_wi m (x0 + 3) (Int32.toNatClampNeg (m.1 x0 1)) x1) (x0 + 4) (Int32.toNatClampNeg ((dc_wi m (x0 + 3) (Int32.toNatClampNeg (m.1 x0 1)) x1).1 x0 1)) x2) (x0 + 5) (Int32.toNatClampNeg ((dc_wi (dc_wi m (x0 + 3) (Int32.toNatClampNeg (m.1 x0 1)) x1) (x0 + 4) (Int32.toNatClampNeg ((dc_wi m (x0 + 3) (Int32.toNatClampNeg (m.1 x0 1)) x1).1 x0 1)) x2).1 x0 1)) x3) (x0 + 6) (Int32.toNatClampNeg ((dc_wi (dc_wi (dc_wi m (x0 + 3) (Int32.toNatClampNeg (m.1 x0 1)) x1) (x0 + 4) (Int32.toNatClampNeg ((dc_wi m (x0 + 3) (Int32.toNatClampNeg (m.1 x0 1)) x1).1 x0 1)) x2) (x0 + 5) (Int32.toNatClampNeg ((dc_wi (dc_wi m (x0 + 3) (Int32.toNatClampNeg (m.1 x0 1)) x1) (x0 + 4) (Int32.toNatClampNeg ((dc_wi m (x0 + 3) (Int32.toNatClampNeg (m.1 x0 1)) x1).1 x0 1)) x2).1 x0 1)) x3).1 x0 1)) (0 : Int32)).1 x0 1)) (0 : Int32)) (x0 + 8) (Int32.toNatClampNeg ((dc_wi (dc_wi (dc_wi (dc_wi (dc_wi m (x0 + 3) (Int32.toNatClampNeg (m.1 x0 1)) x1) (x0 + 4) (Int32.toNatClampNeg ((dc_wi m (x0 + 3) (Int32.toNatClampNeg (m.1 x0 1)) x1).1 x0 1)) x2) (x0 + 5) (Int32.toNatClampNeg ((dc_wi (dc_wi m (x0 + 3) (Int32.toNatClampNeg (m.1 x0 1)) x1) (x0 + 4) (Int32.toNatClampNeg ((dc_wi m (x0 + 3) (Int32.toNatClampNeg (m.1 x0 1)) x1).1 x0 1)) x2).1 x0 1)) x3) (x0 + 6) (Int32.toNatClampNeg ((dc_wi (dc_wi (dc_wi m (x0 + 3) (Int32.toNatClampNeg (m.1 x0 1)) x1) (x0 + 4) (Int32.toNatClampNeg ((dc_wi m (x0 + 3) (Int32.toNatClampNeg (m.1 x0 1)) x1).1 x0 1)) x2) (x0 + 5) (Int32.toNatClampNeg ((dc_wi (dc_wi m (x0 + 3) (Int32.toNatClampNeg (m.1 x0 1)) x1) (x0 + 4) (Int32.toNatClampNeg ((dc_wi m (x0 + 3) (Int32.toNatClampNeg (m.1 x0 1)) x1).1 x0 1)) x2).1 x0 1)) x3).1 x0 1)) (0 : Int32)) (x0 + 7) (Int32.toNatClampNeg ((dc_wi (dc_wi (dc_wi (dc_wi m (x0 + 3) (Int32.toNatClampNeg (m.1 x0 1)) x1) (x0 + 4) (Int32.toNatClampNeg ((dc_wi m (x0 + 3) (Int32.toNatClampNeg (m.1 x0 1)) x1).1 x0 1)) x2) (x0 + 5) (Int32.toNatClampNeg ((dc_wi (dc_wi m (x0 + 3) (Int32.toNatClampNeg (m.1 x0 1)) x1) (x0 + 4) (Int32.toNatClampNeg ((dc_wi m (x0 + 3) (Int32.toNatClampNeg (m.1 x0 1)) x1).1 x0 1)) x2).1 x0 1)) x3) (x0 + 6) (Int32.toNatClampNeg ((dc_wi (dc_wi (dc_wi m (x0 + 3) (Int32.toNatClampNeg (m.1 x0 1)) x1) (x0 + 4) (Int32.toNatClampNeg ((dc_wi m (x0 + 3) (Int32.toNatClampNeg (m.1 x0 1)) x1).1 x0 1)) x2) (x0 + 5) (Int32.toNatClampNeg ((dc_wi (dc_wi m (x0 + 3) (Int32.toNatClampNeg (m.1 x0 1)) x1) (x0 + 4) (Int32.toNatClampNeg ((dc_wi m (x0 + 3) (Int32.toNatClampNeg (m.1 x0 1)) x1).1 x0 1)) x2).1 x0 1)) x3).1 x0 1)) (0 : Int32)).1 x0 1)) (0 : Int32)).1 x0 1)) (1 : Int32)).1 x0 1), .ref x0, .int ((dc_wi (dc_wi (dc_wi (dc_wi (dc_wi (dc_wi m (x0 + 3) (Int32.toNatClampNeg (m.1 x0 1)) x1) (x0 + 4) (Int32.toNatClampNeg ((dc_wi m (x0 + 3) (Int32.toNatClampNeg (m.1 x0 1)) x1).1 x0 1)) x2) (x0 + 5) (Int32.toNatClampNeg ((dc_wi (dc_wi m (x0 + 3) (Int32.toNatClampNeg (m.1 x0 1)) x1) (x0 + 4) (Int32.toNatClampNeg ((dc_wi m (x0 + 3) (Int32.toNatClampNeg (m.1 x0 1)) x1).1 x0 1)) x2).1 x0 1)) x3) (x0 + 6) (Int32.toNatClampNeg ((dc_wi (dc_wi (dc_wi m (x0 + 3) (Int32.toNatClampNeg (m.1 x0 1)) x1) (x0 + 4) (Int32.toNatClampNeg ((dc_wi m (x0 + 3) (Int32.toNatClampNeg (m.1 x0 1)) x1).1 x0 1)) x2) (x0 + 5) (Int32.toNatClampNeg ((dc_wi (dc_wi m (x0 + 3) (Int32.toNatClampNeg (m.1 x0 1)) x1) (x0 + 4) (Int32.toNatClampNeg ((dc_wi m (x0 + 3) (Int32.toNatClampNeg (m.1 x0 1)) x1).1 x0 1)) x2).1 x0 1)) x3).1 x0 1)) (0 : Int32)) (x0 + 7) (Int32.toNatClampNeg ((dc_wi (dc_wi (dc_wi (dc_wi m (x0 + 3) (Int32.toNatClampNeg (m.1 x0 1)) x1) (x0 + 4) (Int32.toNatClampNeg ((dc_wi m (x0 + 3) (Int32.toNatClampNeg (m.1 x0 1)) x1).1 x0 1)) x2) (x0 + 5) (Int32.toNatClampNeg ((dc_wi (dc_wi m (x0 + 3) (Int32.toNatClampNeg (m.1 x0 1)) x1) (x0 + 4) (Int32.toNatClampNeg ((dc_wi m (x0 + 3) (Int32.toNatClampNeg (m.1 x0 1)) x1).1 x0 1)) x2).1 x0 1)) x3) (x0 + 6) (Int32.toNatClampNeg ((dc_wi (dc_wi (dc_wi m (x0 + 3) (Int32.toNatClampNeg (m.1 x0 1)) x1) (x0 + 4) (Int32.toNatClampNeg ((dc_wi m (x0 + 3) (Int32.toNatClampNeg (m.1 x0 1)) x1).1 x0 1)) x2) (x0 + 5) (Int32.toNatClampNeg ((dc_wi (dc_wi m (x0 + 3) (Int32.toNatClampNeg (m.1 x0 1)) x1) (x0 + 4) (Int32.toNatClampNeg ((dc_wi m (x0 + 3) (Int32.toNatClampNeg (m.1 x0 1)) x1).1 x0 1)) x2).1 x0 1)) x3).1 x0 1)) (0 : Int32)).1 x0 1)) (0 : Int32)) (x0 + 8) (Int32.toNatClampNeg ((dc_wi (dc_wi (dc_wi (dc_wi (dc_wi m (x0 + 3) (Int32.toNatClampNeg (m.1 x0 1)) x1) (x0 + 4) (Int32.toNatClampNeg ((dc_wi m (x0 + 3) (Int32.toNatClampNeg (m.1 x0 1)) x1).1 x0 1)) x2) (x0 + 5) (Int32.toNatClampNeg ((dc_wi (dc_wi m (x0 + 3) (Int32.toNatClampNeg (m.1 x0 1)) x1) (x0 + 4) (Int32.toNatClampNeg ((dc_wi m (x0 + 3) (Int32.toNatClampNeg (m.1 x0 1)) x1).1 x0 1)) x2).1 x0 1)) x3) (x0 + 6) (Int32.toNatClampNeg ((dc_wi (dc_wi (dc_wi m (x0 + 3) (Int32.toNatClampNeg (m.1 x0 1)) x1) (x0 + 4) (Int32.toNatClampNeg ((dc_wi m (x0 + 3) (Int32.toNatClampNeg (m.1 x0 1)) x1).1 x0 1)) x2) (x0 + 5) (Int32.toNatClampNeg ((dc_wi (dc_wi m (x0 + 3) (Int32.toNatClampNeg (m.1 x0 1)) x1) (x0 + 4) (Int32.toNatClampNeg ((dc_wi m (x0 + 3) (Int32.toNatClampNeg (m.1 x0 1)) x1).1 x0 1)) x2).1 x0 1)) x3).1 x0 1)) (0 : Int32)) (x0 + 7) (Int32.toNatClampNeg ((dc_wi (dc_wi (dc_wi (dc_wi m (x0 + 3) (Int32.toNatClampNeg (m.1 x0 1)) x1) (x0 + 4) (Int32.toNatClampNeg ((dc_wi m (x0 + 3) (Int32.toNatClampNeg (m.1 x0 1)) x1).1 x0 1)) x2) (x0 + 5) (Int32.toNatClampNeg ((dc_wi (dc_wi m (x0 + 3) (Int32.toNatClampNeg (m.1 x0 1)) x1) (x0 + 4) (Int32.toNatClampNeg ((dc_wi m (x0 + 3) (Int32.toNatClampNeg (m.1 x0 1)) x1).1 x0 1)) x2).1 x0 1)) x3) (x0 + 6) (Int32.toNatClampNeg ((dc_wi (dc_wi (dc_wi m (x0 + 3) (Int32.toNatClampNeg (m.1 x0 1)) x1) (x0 + 4) (Int32.toNatClampNeg ((dc_wi m (x0 + 3) (Int32.toNatClampNeg (m.1 x0 1)) x1).1 x0 1)) x2) (x0 + 5) (Int32.toNatClampNeg ((dc_wi (dc_wi m (x0 + 3) (Int32.toNatClampNeg (m.1 x0 1)) x1) (x0 + 4) (Int32.toNatClampNeg ((dc_wi m (x0 + 3) (Int32.toNatClampNeg (m.1 x0 1)) x1).1 x0 1)) x2).1 x0 1)) x3).1 x0 1)) (0 : Int32)).1 x0 1)) (0 : Int32)).1 x0 1)) (1 : Int32)).1 x0 1)] rfl (fun _ => rfl) rfl ?_
    refine dg_s (pc' := 79) [.int (1 : Int32), .int ((dc_wi (dc_wi (dc_wi (dc_wi (dc_wi (dc_wi m (x0 + 3) (Int32.toNatClampNeg (m.1 x0 1)) x1) (x0 + 4) (Int32.toNatClampNeg ((dc_wi m (x0 + 3) (Int32.toNatClampNeg (m.1 x0 1)) x1).1 x0 1)) x2) (x0 + 5) (Int32.toNatClampNeg ((dc_wi (dc_wi m (x0 + 3) (Int32.toNatClampNeg (m.1 x0 1)) x1) (x0 + 4) (Int32.toNatClampNeg ((dc_wi m (x0 + 3) (Int32.toNatClampNeg (m.1 x0 1)) x1).1 x0 1)) x2).1 x0 1)) x3) (x0 + 6) (Int32.toNatClampNeg ((dc_wi (dc_wi (dc_wi m (x0 + 3) (Int32.toNatClampNeg (m.1 x0 1)) x1) (x0 + 4) (Int32.toNatClampNeg ((dc_wi m (x0 + 3) (Int32.toNatClampNeg (m.1 x0 1)) x1).1 x0 1)) x2) (x0 + 5) (Int32.toNatClampNeg ((dc_wi (dc_wi m (x0 + 3) (Int32.toNatClampNeg (m.1 x0 1)) x1) (x0 + 4) (Int32.toNatClampNeg ((dc_wi m (x0 + 3) (Int32.toNatClampNeg (m.1 x0 1)) x1).1 x0 1)) x2).1 x0 1)) x3).1 x0 1)) (0 : Int32)) (x0 + 7) (Int32.toNatClampNeg ((dc_wi (dc_wi (dc_wi (dc_wi m (x0 + 3) (Int32.toNatClampNeg (m.1 x0 1)) x1) (x0 + 4) (Int32.toNatClampNeg ((dc_wi m (x0 + 3) (Int32.toNatClampNeg (m.1 x0 1)) x1).1 x0 1)) x2) (x0 + 5) (Int32.toNatClampNeg ((dc_wi (dc_wi m (x0 + 3) (Int32.toNatClampNeg (m.1 x0 1)) x1) (x0 + 4) (Int32.toNatClampNeg ((dc_wi m (x0 + 3) (Int32.toNatClampNeg (m.1 x0 1)) x1).1 x0 1)) x2).1 x0 1)) x3) (x0 + 6) (Int32.toNatClampNeg ((dc_wi (dc_wi (dc_wi m (x0 + 3) (Int32.toNatClampNeg (m.1 x0 1)) x1) (x0 + 4) (Int32.toNatClampNeg ((dc_wi m (x0 + 3) (Int32.toNatClampNeg (m.1 x0 1)) x1).1 x0 1)) x2) (x0 + 5) (Int32.toNatClampNeg ((dc_wi (dc_wi m (x0 + 3) (Int32.toNatClampNeg (m.1 x0 1)) x1) (x0 + 4) (Int32.toNatClampNeg ((dc_wi m (x0 + 3) (Int32.toNatClampNeg (m.1 x0 1)) x1).1 x0 1)) x2).1 x0 1)) x3).1 x0 1)) (0 : Int32)).1 x0 1)) (0 : Int32)) (x0 + 8) (Int32.toNatClampNeg ((dc_wi (dc_wi (dc_wi (dc_wi (dc_wi m (x0 + 3) (Int32.toNatClampNeg (m.1 x0 1)) x1) (x0 + 4) (Int32.toNatClampNeg ((dc_wi m (x0 + 3) (Int32.toNatClampNeg (m.1 x0 1)) x1).1 x0 1)) x2) (x0 + 5) (Int32.toNatClampNeg ((dc_wi (dc_wi m (x0 + 3) (Int32.toNatClampNeg (m.1 x0 1)) x1) (x0 + 4) (Int32.toNatClampNeg ((dc_wi m (x0 + 3) (Int32.toNatClampNeg (m.1 x0 1)) x1).1 x0 1)) x2).1 x0 1)) x3) (x0 + 6) (Int32.toNatClampNeg ((dc_wi (dc_wi (dc_wi m (x0 + 3) (Int32.toNatClampNeg (m.1 x0 1)) x1) (x0 + 4) (Int32.toNatClampNeg ((dc_wi m (x0 + 3) (Int32.toNatClampNeg (m.1 x0 1)) x1).1 x0 1)) x2) (x0 + 5) (Int32.toNatClampNeg ((dc_wi (dc_wi m (x0 + 3) (Int32.toNatClampNeg (m.1 x0 1)) x1) (x0 + 4) (Int32.toNatClampNeg ((dc_wi m (x0 + 3) (Int32.toNatClampNeg (m.1 x0 1)) x1).1 x0 1)) x2).1 x0 1)) x3).1 x0 1)) (0 : Int32)) (x0 + 7) (Int32.toNatClampNeg ((dc_wi (dc_wi (dc_wi (dc_wi m (x0 + 3) (Int32.toNatClampNeg (m.1 x0 1)) x1) (x0 + 4) (Int32.toNatClampNeg ((dc_wi m (x0 + 3) (Int32.toNatClampNeg (m.1 x0 1)) x1).1 x0 1)) x2) (x0 + 5) (Int32.toNatClampNeg ((dc_wi (dc_wi m (x0 + 3) (Int32.toNatClampNeg (m.1 x0 1)) x1) (x0 + 4) (Int32.toNatClampNeg ((dc_wi m (x0 + 3) (Int32.toNatClampNeg (m.1 x0 1)) x1).1 x0 1)) x2).1 x0 1)) x3) (x0 + 6) (Int32.toNatClampNeg ((dc_wi (dc_wi (dc_wi m (x0 + 3) (Int32.toNatClampNeg (m.1 x0 1)) x1) (x0 + 4) (Int32.toNatClampNeg ((dc_wi m (x0 + 3) (Int32.toNatClampNeg (m.1 x0 1)) x1).1 x0 1)) x2) (x0 + 5) (Int32.toNatClampNeg ((dc_wi (dc_wi m (x0 + 3) (Int32.toNatClampNeg (m.1 x0 1)) x1) (x0 + 4) (Int32.toNatClampNeg ((dc_wi m (x0 + 3) (Int32.toNatClampNeg (m.1 x0 1)) x1).1 x0 1)) x2).1 x0 1)) x3).1 x0 1)) (0 : Int32)).1 x0 1)) (0 : Int32)).1 x0 1)) (1 : Int32)).1 x0 1), .ref x0, .int ((dc_wi (dc_wi (dc_wi (dc_wi (dc_wi (dc_wi m (x0 + 3) (Int32.toNatClampNeg (m.1 x0 1)) x1) (x0 + 4) (Int32.toNatClampNeg ((dc_wi m (x0 + 3) (Int32.toNatClampNeg (m.1 x0 1)) x1).1 x0 1)) x2) (x0 + 5) (Int32.toNatClampNeg ((dc_wi (dc_wi m (x0 + 3) (Int32.toNatClampNeg (m.1 x0 1)) x1) (x0 + 4) (Int32.toNatClampNeg ((dc_wi m (x0 + 3) (Int32.toNatClampNeg (m.1 x0 1)) x1).1 x0 1)) x2).1 x0 1)) x3) (x0 + 6) (Int32.toNatClampNeg ((dc_wi (dc_wi (dc_wi m (x0 + 3) (Int32.toNatClampNeg (m.1 x0 1)) x1) (x0 + 4) (Int32.toNatClampNeg ((dc_wi m (x0 + 3) (Int32.toNatClampNeg (m.1 x0 1)) x1).1 x0 1)) x2) (x0 + 5) (Int32.toNatClampNeg ((dc_wi (dc_wi m (x0 + 3) (Int32.toNatClampNeg (m.1 x0 1)) x1) (x0 + 4) (Int32.toNatClampNeg ((dc_wi m (x0 + 3) (Int32.toNatClampNeg (m.1 x0 1)) x1).1 x0 1)) x2).1 x0 1)) x3).1 x0 1)) (0 : Int32)) (x0 + 7) (Int32.toNatClampNeg ((dc_wi (dc_wi (dc_wi (dc_wi m (x0 + 3) (Int32.toNatClampNeg (m.1 x0 1)) x1) (x0 + 4) (Int32.toNatClampNeg ((dc_wi m (x0 + 3) (Int32.toNatClampNeg (m.1 x0 1)) x1).1 x0 1)) x2) (x0 + 5) (Int32.toNatClampNeg ((dc_wi (dc_wi m (x0 + 3) (Int32.toNatClampNeg (m.1 x0 1)) x1) (x0 + 4) (Int32.toNatClampNeg ((dc_wi m (x0 + 3) (Int32.toNatClampNeg (m.1 x0 1)) x1).1 x0 1)) x2).1 x0 1)) x3) (x0 + 6) (Int32.toNatClampNeg ((dc_wi (dc_wi (dc_wi m (x0 + 3) (Int32.toNatClampNeg (m.1 x0 1)) x1) (x0 + 4) (Int32.toNatClampNeg ((dc_wi m (x0 + 3) (Int32.toNatClampNeg (m.1 x0 1)) x1).1 x0 1)) x2) (x0 + 5) (Int32.toNatClampNeg ((dc_wi (dc_wi m (x0 + 3) (Int32.toNatClampNeg (m.1 x0 1)) x1) (x0 + 4) (Int32.toNatClampNeg ((dc_wi m (x0 + 3) (Int32.toNatClampNeg (m.1 x0 1)) x1).1 x0 1)) x2).1 x0 1)) x3).1 x0 1)) (0 : Int32)).1 x0 1)) (0 : Int32)) (x0 + 8) (Int32.toNatClampNeg ((dc_wi (dc_wi (dc_wi (dc_wi (dc_wi m (x0 + 3) (Int32.toNatClampNeg (m.1 x0 1)) x1) (x0 + 4) (Int32.toNatClampNeg ((dc_wi m (x0 + 3) (Int32.toNatClampNeg (m.1 x0 1)) x1).1 x0 1)) x2) (x0 + 5) (Int32.toNatClampNeg ((dc_wi (dc_wi m (x0 + 3) (Int32.toNatClampNeg (m.1 x0 1)) x1) (x0 + 4) (Int32.toNatClampNeg ((dc_wi m (x0 + 3) (Int32.toNatClampNeg (m.1 x0 1)) x1).1 x0 1)) x2).1 x0 1)) x3) (x0 + 6) (Int32.toNatClampNeg ((dc_wi (dc_wi (dc_wi m (x0 + 3) (Int32.toNatClampNeg (m.1 x0 1)) x1) (x0 + 4) (Int32.toNatClampNeg ((dc_wi m (x0 + 3) (Int32.toNatClampNeg (m.1 x0 1)) x1).1 x0 1)) x2) (x0 + 5) (Int32.toNatClampNeg ((dc_wi (dc_wi m (x0 + 3) (Int32.toNatClampNeg (m.1 x0 1)) x1) (x0 + 4) (Int32.toNatClampNeg ((dc_wi m (x0 + 3) (Int32.toNatClampNeg (m.1 x0 1)) x1).1 x0 1)) x2).1 x0 1)) x3).1 x0 1)) (0 : Int32)) (x0 + 7) (Int32.toNatClampNeg ((dc_wi (dc_wi (dc_wi (dc_wi m (x0 + 3) (Int32.toNatClampNeg (m.1 x0 1)) x1) (x0 + 4) (Int32.toNatClampNeg ((dc_wi m (x0 + 3) (Int32.toNatClampNeg (m.1 x0 1)) x1).1 x0 1)) x2) (x0 + 5) (Int32.toNatClampNeg ((dc_wi (dc_wi m (x0 + 3) (Int32.toNatClampNeg (m.1 x0 1)) x1) (x0 + 4) (Int32.toNatClampNeg ((dc_wi m (x0 + 3) (Int32.toNatClampNeg (m.1 x0 1)) x1).1 x0 1)) x2).1 x0 1)) x3) (x0 + 6) (Int32.toNatClampNeg ((dc_wi (dc_wi (dc_wi m (x0 + 3) (Int32.toNatClampNeg (m.1 x0 1)) x1) (x0 + 4) (Int32.toNatClampNeg ((dc_wi m (x0 + 3) (Int32.toNatClampNeg (m.1 x0 1)) x1).1 x0 1)) x2) (x0 + 5) (Int32.toNatClampNeg ((dc_wi (dc_wi m (x0 + 3) (Int32.toNatClampNeg (m.1 x0 1)) x1) (x0 + 4) (Int32.toNatClampNeg ((dc_wi m (x0 + 3) (Int32.toNatClampNeg (m.1 x0 1)) x1).1 x0 1)) x2).1 x0 1)) x3).1 x0 1)) (0 : Int32)).1 x0 1)) (0 : Int32)).1 x0 1)) (1 : Int32)).1 x0 1)] rfl (fun _ => rfl) rfl ?_
    refine dg_s (pc' := 80) [.int (((dc_wi (dc_wi (dc_wi (dc_wi (dc_wi (dc_wi m (x0 + 3) (Int32.toNatClampNeg (m.1 x0 1)) x1) (x0 + 4) (Int32.toNatClampNeg ((dc_wi m (x0 + 3) (Int32.toNatClampNeg (m.1 x0 1)) x1).1 x0 1)) x2) (x0 + 5) (Int32.toNatClampNeg ((dc_wi (dc_wi m (x0 + 3) (Int32.toNatClampNeg (m.1 x0 1)) x1) (x0 + 4) (Int32.toNatClampNeg ((dc_wi m (x0 + 3) (Int32.toNatClampNeg (m.1 x0 1)) x1).1 x0 1)) x2).1 x0 1)) x3) (x0 + 6) (Int32.toNatClampNeg ((dc_wi (dc_wi (dc_wi m (x0 + 3) (Int32.toNatClampNeg (m.1 x0 1)) x1) (x0 + 4) (Int32.toNatClampNeg ((dc_wi m (x0 + 3) (Int32.toNatClampNeg (m.1 x0 1)) x1).1 x0 1)) x2) (x0 + 5) (Int32.toNatClampNeg ((dc_wi (dc_wi m (x0 + 3) (Int32.toNatClampNeg (m.1 x0 1)) x1) (x0 + 4) (Int32.toNatClampNeg ((dc_wi m (x0 + 3) (Int32.toNatClampNeg (m.1 x0 1)) x1).1 x0 1)) x2).1 x0 1)) x3).1 x0 1)) (0 : Int32)) (x0 + 7) (Int32.toNatClampNeg ((dc_wi (dc_wi (dc_wi (dc_wi m (x0 + 3) (Int32.toNatClampNeg (m.1 x0 1)) x1) (x0 + 4) (Int32.toNatClampNeg ((dc_wi m (x0 + 3) (Int32.toNatClampNeg (m.1 x0 1)) x1).1 x0 1)) x2) (x0 + 5) (Int32.toNatClampNeg ((dc_wi (dc_wi m (x0 + 3) (Int32.toNatClampNeg (m.1 x0 1)) x1) (x0 + 4) (Int32.toNatClampNeg ((dc_wi m (x0 + 3) (Int32.toNatClampNeg (m.1 x0 1)) x1).1 x0 1)) x2).1 x0 1)) x3) (x0 + 6) (Int32.toNatClampNeg ((dc_wi (dc_wi (dc_wi m (x0 + 3) (Int32.toNatClampNeg (m.1 x0 1)) x1) (x0 + 4) (Int32.toNatClampNeg ((dc_wi m (x0 + 3) (Int32.toNatClampNeg (m.1 x0 1)) x1).1 x0 1)) x2) (x0 + 5) (Int32.toNatClampNeg ((dc_wi (dc_wi m (x0 + 3) (Int32.toNatClampNeg (m.1 x0 1)) x1) (x0 + 4) (Int32.toNatClampNeg ((dc_wi m (x0 + 3) (Int32.toNatClampNeg (m.1 x0 1)) x1).1 x0 1)) x2).1 x0 1)) x3).1 x0 1)) (0 : Int32)).1 x0 1)) (0 : Int32)) (x0 + 8) (Int32.toNatClampNeg ((dc_wi (dc_wi (dc_wi (dc_wi (dc_wi m (x0 + 3) (Int32.toNatClampNeg (m.1 x0 1)) x1) (x0 + 4) (Int32.toNatClampNeg ((dc_wi m (x0 + 3) (Int32.toNatClampNeg (m.1 x0 1)) x1).1 x0 1)) x2) (x0 + 5) (Int32.toNatClampNeg ((dc_wi (dc_wi m (x0 + 3) (Int32.toNatClampNeg (m.1 x0 1)) x1) (x0 + 4) (Int32.toNatClampNeg ((dc_wi m (x0 + 3) (Int32.toNatClampNeg (m.1 x0 1)) x1).1 x0 1)) x2).1 x0 1)) x3) (x0 + 6) (Int32.toNatClampNeg ((dc_wi (dc_wi (dc_wi m (x0 + 3) (Int32.toNatClampNeg (m.1 x0 1)) x1) (x0 + 4) (Int32.toNatClampNeg ((dc_wi m (x0 + 3) (Int32.toNatClampNeg (m.1 x0 1)) x1).1 x0 1)) x2) (x0 + 5) (Int32.toNatClampNeg ((dc_wi (dc_wi m (x0 + 3) (Int32.toNatClampNeg (m.1 x0 1)) x1) (x0 + 4) (Int32.toNatClampNeg ((dc_wi m (x0 + 3) (Int32.toNatClampNeg (m.1 x0 1)) x1).1 x0 1)) x2).1 x0 1)) x3).1 x0 1)) (0 : Int32)) (x0 + 7) (Int32.toNatClampNeg ((dc_wi (dc_wi (dc_wi (dc_wi m (x0 + 3) (Int32.toNatClampNeg (m.1 x0 1)) x1) (x0 + 4) (Int32.toNatClampNeg ((dc_wi m (x0 + 3) (Int32.toNatClampNeg (m.1 x0 1)) x1).1 x0 1)) x2) (x0 + 5) (Int32.toNatClampNeg ((dc_wi (dc_wi m (x0 + 3) (Int32.toNatClampNeg (m.1 x0 1)) x1) (x0 + 4) (Int32.toNatClampNeg ((dc_wi m (x0 + 3) (Int32.toNatClampNeg (m.1 x0 1)) x1).1 x0 1)) x2).1 x0 1)) x3) (x0 + 6) (Int32.toNatClampNeg ((dc_wi (dc_wi (dc_wi m (x0 + 3) (Int32.toNatClampNeg (m.1 x0 1)) x1) (x0 + 4) (Int32.toNatClampNeg ((dc_wi m (x0 + 3) (Int32.toNatClampNeg (m.1 x0 1)) x1).1 x0 1)) x2) (x0 + 5) (Int32.toNatClampNeg ((dc_wi (dc_wi m (x0 + 3) (Int32.toNatClampNeg (m.1 x0 1)) x1) (x0 + 4) (Int32.toNatClampNeg ((dc_wi m (x0 + 3) (Int32.toNatClampNeg (m.1 x0 1)) x1).1 x0 1)) x2).1 x0 1)) x3).1 x0 1)) (0 : Int32)).1 x0 1)) (0 : Int32)).1 x0 1)) (1 : Int32)).1 x0 1) + (1 : Int32)), .ref x0, .int ((dc_wi (dc_wi (dc_wi (dc_wi (dc_wi (dc_wi m (x0 + 3) (Int32.toNatClampNeg (m.1 x0 1)) x1) (x0 + 4) (Int32.toNatClampNeg ((dc_wi m (x0 + 3) (Int32.toNatClampNeg (m.1 x0 1)) x1).1 x0 1)) x2) (x0 + 5) (Int32.toNatClampNeg ((dc_wi (dc_wi m (x0 + 3) (Int32.toNatClampNeg (m.1 x0 1)) x1) (x0 + 4) (Int32.toNatClampNeg ((dc_wi m (x0 + 3) (Int32.toNatClampNeg (m.1 x0 1)) x1).1 x0 1)) x2).1 x0 1)) x3) (x0 + 6) (Int32.toNatClampNeg ((dc_wi (dc_wi (dc_wi m (x0 + 3) (Int32.toNatClampNeg (m.1 x0 1)) x1) (x0 + 4) (Int32.toNatClampNeg ((dc_wi m (x0 + 3) (Int32.toNatClampNeg (m.1 x0 1)) x1).1 x0 1)) x2) (x0 + 5) (Int32.toNatClampNeg ((dc_wi (dc_wi m (x0 + 3) (Int32.toNatClampNeg (m.1 x0 1)) x1) (x0 + 4) (Int32.toNatClampNeg ((dc_wi m (x0 + 3) (Int32.toNatClampNeg (m.1 x0 1)) x1).1 x0 1)) x2).1 x0 1)) x3).1 x0 1)) (0 : Int32)) (x0 + 7) (Int32.toNatClampNeg ((dc_wi (dc_wi (dc_wi (dc_wi m (x0 + 3) (Int32.toNatClampNeg (m.1 x0 1)) x1) (x0 + 4) (Int32.toNatClampNeg ((dc_wi m (x0 + 3) (Int32.toNatClampNeg (m.1 x0 1)) x1).1 x0 1)) x2) (x0 + 5) (Int32.toNatClampNeg ((dc_wi (dc_wi m (x0 + 3) (Int32.toNatClampNeg (m.1 x0 1)) x1) (x0 + 4) (Int32.toNatClampNeg ((dc_wi m (x0 + 3) (Int32.toNatClampNeg (m.1 x0 1)) x1).1 x0 1)) x2).1 x0 1)) x3) (x0 + 6) (Int32.toNatClampNeg ((dc_wi (dc_wi (dc_wi m (x0 + 3) (Int32.toNatClampNeg (m.1 x0 1)) x1) (x0 + 4) (Int32.toNatClampNeg ((dc_wi m (x0 + 3) (Int32.toNatClampNeg (m.1 x0 1)) x1).1 x0 1)) x2) (x0 + 5) (Int32.toNatClampNeg ((dc_wi (dc_wi m (x0 + 3) (Int32.toNatClampNeg (m.1 x0 1)) x1) (x0 + 4) (Int32.toNatClampNeg ((dc_wi m (x0 + 3) (Int32.toNatClampNeg (m.1 x0 1)) x1).1 x0 1)) x2).1 x0 1)) x3).1 x0 1)) (0 : Int32)).1 x0 1)) (0 : Int32)) (x0 + 8) (Int32.toNatClampNeg ((dc_wi (dc_wi (dc_wi (dc_wi (dc_wi m (x0 + 3) (Int32.toNatClampNeg (m.1 x0 1)) x1) (x0 + 4) (Int32.toNatClampNeg ((dc_wi m (x0 + 3) (Int32.toNatClampNeg (m.1 x0 1)) x1).1 x0 1)) x2) (x0 + 5) (Int32.toNatClampNeg ((dc_wi (dc_wi m (x0 + 3) (Int32.toNatClampNeg (m.1 x0 1)) x1) (x0 + 4) (Int32.toNatClampNeg ((dc_wi m (x0 + 3) (Int32.toNatClampNeg (m.1 x0 1)) x1).1 x0 1)) x2).1 x0 1)) x3) (x0 + 6) (Int32.toNatClampNeg ((dc_wi (dc_wi (dc_wi m (x0 + 3) (Int32.toNatClampNeg (m.1 x0 1)) x1) (x0 + 4) (Int32.toNatClampNeg ((dc_wi m (x0 + 3) (Int32.toNatClampNeg (m.1 x0 1)) x1).1 x0 1)) x2) (x0 + 5) (Int32.toNatClampNeg ((dc_wi (dc_wi m (x0 + 3) (Int32.toNatClampNeg (m.1 x0 1)) x1) (x0 + 4) (Int32.toNatClampNeg ((dc_wi m (x0 + 3) (Int32.toNatClampNeg (m.1 x0 1)) x1).1 x0 1)) x2).1 x0 1)) x3).1 x0 1)) (0 : Int32)) (x0 + 7) (Int32.toNatClampNeg ((dc_wi (dc_wi (dc_wi (dc_wi m (x0 + 3) (Int32.toNatClampNeg (m.1 x0 1)) x1) (x0 + 4) (Int32.toNatClampNeg ((dc_wi m (x0 + 3) (Int32.toNatClampNeg (m.1 x0 1)) x1).1 x0 1)) x2) (x0 + 5) (Int32.toNatClampNeg ((dc_wi (dc_wi m (x0 + 3) (Int32.toNatClampNeg (m.1 x0 1)) x1) (x0 + 4) (Int32.toNatClampNeg ((dc_wi m (x0 + 3) (Int32.toNatClampNeg (m.1 x0 1)) x1).1 x0 1)) x2).1 x0 1)) x3) (x0 + 6) (Int32.toNatClampNeg ((dc_wi (dc_wi (dc_wi m (x0 + 3) (Int32.toNatClampNeg (m.1 x0 1)) x1) (x0 + 4) (Int32.toNatClampNeg ((dc_wi m (x0 + 3) (Int32.toNatClampNeg (m.1 x0 1)) x1).1 x0 1)) x2) (x0 + 5) (Int32.toNatClampNeg ((dc_wi (dc_wi m (x0 + 3) (Int32.toNatClampNeg (m.1 x0 1)) x1) (x0 + 4) (Int32.toNatClampNeg ((dc_wi m (x0 + 3) (Int32.toNatClampNeg (m.1 x0 1)) x1).1 x0 1)) x2).1 x0 1)) x3).1 x0 1)) (0 : Int32)).1 x0 1)) (0 : Int32)).1 x0 1)) (1 : Int32)).1 x0 1)] rfl (fun _ => rfl) rfl ?_
    refine dg_m (pc' := 83) (dc_wi (dc_wi (dc_wi (dc_wi (dc_wi (dc_wi (dc_wi m (x0 + 3) (Int32.toNatClampNeg (m.1 x0 1)) x1) (x0 + 4) (Int32.toNatClampNeg ((dc_wi m (x0 + 3) (Int32.toNatClampNeg (m.1 x0 1)) x1).1 x0 1)) x2) (x0 + 5) (Int32.toNatClampNeg ((dc_wi (dc_wi m (x0 + 3) (Int32.toNatClampNeg (m.1 x0 1)) x1) (x0 + 4) (Int32.toNatClampNeg ((dc_wi m (x0 + 3) (Int32.toNatClampNeg (m.1 x0 1)) x1).1 x0 1)) x2).1 x0 1)) x3) (x0 + 6) (Int32.toNatClampNeg ((dc_wi (dc_wi (dc_wi m (x0 + 3) (Int32.toNatClampNeg (m.1 x0 1)) x1) (x0 + 4) (Int32.toNatClampNeg ((dc_wi m (x0 + 3) (Int32.toNatClampNeg (m.1 x0 1)) x1).1 x0 1)) x2) (x0 + 5) (Int32.toNatClampNeg ((dc_wi (dc_wi m (x0 + 3) (Int32.toNatClampNeg (m.1 x0 1)) x1) (x0 + 4) (Int32.toNatClampNeg ((dc_wi m (x0 + 3) (Int32.toNatClampNeg (m.1 x0 1)) x1).1 x0 1)) x2).1 x0 1)) x3).1 x0 1)) (0 : Int32)) (x0 + 7) (Int32.toNatClampNeg ((dc_wi (dc_wi (dc_wi (dc_wi m (x0 + 3) (Int32.toNatClampNeg (m.1 x0 1)) x1) (x0 + 4) (Int32.toNatClampNeg ((dc_wi m (x0 + 3) (Int32.toNatClampNeg (m.1 x0 1)) x1).1 x0 1)) x2) (x0 + 5) (Int32.toNatClampNeg ((dc_wi (dc_wi m (x0 + 3) (Int32.toNatClampNeg (m.1 x0 1)) x1) (x0 + 4) (Int32.toNatClampNeg ((dc_wi m (x0 + 3) (Int32.toNatClampNeg (m.1 x0 1)) x1).1 x0 1)) x2).1 x0 1)) x3) (x0 + 6) (Int32.toNatClampNeg ((dc_wi (dc_wi (dc_wi m (x0 + 3) (Int32.toNatClampNeg (m.1 x0 1)) x1) (x0 + 4) (Int32.toNatClampNeg ((dc_wi m (x0 + 3) (Int32.toNatClampNeg (m.1 x0 1)) x1).1 x0 1)) x2) (x0 + 5) (Int32.toNatClampNeg ((dc_wi (dc_wi m (x0 + 3) (Int32.toNatClampNeg (m.1 x0 1)) x1) (x0 + 4) (Int32.toNatClampNeg ((dc_wi m (x0 + 3) (Int32.toNatClampNeg (m.1 x0 1)) x1).1 x0 1)) x2).1 x0 1)) x3).1 x0 1)) (0 : Int32)).1 x0 1)) (0 : Int32)) (x0 + 8) (Int32.toNatClampNeg ((dc_wi (dc_wi (dc_wi (dc_wi (dc_wi m (x0 + 3) (Int32.toNatClampNeg (m.1 x0 1)) x1) (x0 + 4) (Int32.toNatClampNeg ((dc_wi m (x0 + 3) (Int32.toNatClampNeg (m.1 x0 1)) x1).1 x0 1)) x2) (x0 + 5) (Int32.toNatClampNeg ((dc_wi (dc_wi m (x0 + 3) (Int32.toNatClampNeg (m.1 x0 1)) x1) (x0 + 4) (Int32.toNatClampNeg ((dc_wi m (x0 + 3) (Int32.toNatClampNeg (m.1 x0 1)) x1).1 x0 1)) x2).1 x0 1)) x3) (x0 + 6) (Int32.toNatClampNeg ((dc_wi (dc_wi (dc_wi m (x0 + 3) (Int32.toNatClampNeg (m.1 x0 1)) x1) (x0 + 4) (Int32.toNatClampNeg ((dc_wi m (x0 + 3) (Int32.toNatClampNeg (m.1 x0 1)) x1).1 x0 1)) x2) (x0 + 5) (Int32.toNatClampNeg ((dc_wi (dc_wi m (x0 + 3) (Int32.toNatClampNeg (m.1 x0 1)) x1) (x0 + 4) (Int32.toNatClampNeg ((dc_wi m (x0 + 3) (Int32.toNatClampNeg (m.1 x0 1)) x1).1 x0 1)) x2).1 x0 1)) x3).1 x0 1)) (0 : Int32)) (x0 + 7) (Int32.toNatClampNeg ((dc_wi (dc_wi (dc_wi (dc_wi m (x0 + 3) (Int32.toNatClampNeg (m.1 x0 1)) x1) (x0 + 4) (Int32.toNatClampNeg ((dc_wi m (x0 + 3) (Int32.toNatClampNeg (m.1 x0 1)) x1).1 x0 1)) x2) (x0 + 5) (Int32.toNatClampNeg ((dc_wi (dc_wi m (x0 + 3) (Int32.toNatClampNeg (m.1 x0 1)) x1) (x0 + 4) (Int32.toNatClampNeg ((dc_wi m (x0 + 3) (Int32.toNatClampNeg (m.1 x0 1)) x1).1 x0 1)) x2).1 x0 1)) x3) (x0 + 6) (Int32.toNatClampNeg ((dc_wi (dc_wi (dc_wi m (x0 + 3) (Int32.toNatClampNeg (m.1 x0 1)) x1) (x0 + 4) (Int32.toNatClampNeg ((dc_wi m (x0 + 3) (Int32.toNatClampNeg (m.1 x0 1)) x1).1 x0 1)) x2) (x0 + 5) (Int32.toNatClampNeg ((dc_wi (dc_wi m (x0 + 3) (Int32.toNatClampNeg (m.1 x0 1)) x1) (x0 + 4) (Int32.toNatClampNeg ((dc_wi m (x0 + 3) (Int32.toNatClampNeg (m.1 x0 1)) x1).1 x0 1)) x2).1 x0 1)) x3).1 x0 1)) (0 : Int32)).1 x0 1)) (0 : Int32)).1 x0 1)) (1 : Int32)) x0 1 (((dc_wi (dc_wi (dc_wi (dc_wi (dc_wi (dc_wi m (x0 + 3) (Int32.toNatClampNeg (m.1 x0 1)) x1) (x0 + 4) (Int32.toNatClampNeg ((dc_wi m (x0 + 3) (Int32.toNatClampNeg (m.1 x0 1)) x1).1 x0 1)) x2) (x0 + 5) (Int32.toNatClampNeg ((dc_wi (dc_wi m (x0 + 3) (Int32.toNatClampNeg (m.1 x0 1)) x1) (x0 + 4) (Int32.toNatClampNeg ((dc_wi m (x0 + 3) (Int32.toNatClampNeg (m.1 x0 1)) x1).1 x0 1)) x2).1 x0 1)) x3) (x0 + 6) (Int32.toNatClampNeg ((dc_wi (dc_wi (dc_wi m (x0 + 3) (Int32.toNatClampNeg (m.1 x0 1)) x1) (x0 + 4) (Int32.toNatClampNeg ((dc_wi m (x0 + 3) (Int32.toNatClampNeg (m.1 x0 1)) x1).1 x0 1)) x2) (x0 + 5) (Int32.toNatClampNeg ((dc_wi (dc_wi m (x0 + 3) (Int32.toNatClampNeg (m.1 x0 1)) x1) (x0 + 4) (Int32.toNatClampNeg ((dc_wi m (x0 + 3) (Int32.toNatClampNeg (m.1 x0 1)) x1).1 x0 1)) x2).1 x0 1)) x3).1 x0 1)) (0 : Int32)) (x0 + 7) (Int32.toNatClampNeg ((dc_wi (dc_wi (dc_wi (dc_wi m (x0 + 3) (Int32.toNatClampNeg (m.1 x0 1)) x1) (x0 + 4) (Int32.toNatClampNeg ((dc_wi m (x0 + 3) (Int32.toNatClampNeg (m.1 x0 1)) x1).1 x0 1)) x2) (x0 + 5) (Int32.toNatClampNeg ((dc_wi (dc_wi m (x0 + 3) (Int32.toNatClampNeg (m.1 x0 1)) x1) (x0 + 4) (Int32.toNatClampNeg ((dc_wi m (x0 + 3) (Int32.toNatClampNeg (m.1 x0 1)) x1).1 x0 1)) x2).1 x0 1)) x3) (x0 + 6) (Int32.toNatClampNeg ((dc_wi (dc_wi (dc_wi m (x0 + 3) (Int32.toNatClampNeg (m.1 x0 1)) x1) (x0 + 4) (Int32.toNatClampNeg ((dc_wi m (x0 + 3) (Int32.toNatClampNeg (m.1 x0 1)) x1).1 x0 1)) x2) (x0 + 5) (Int32.toNatClampNeg ((dc_wi (dc_wi m (x0 + 3) (Int32.toNatClampNeg (m.1 x0 1)) x1) (x0 + 4) (Int32.toNatClampNeg ((dc_wi m (x0 + 3) (Int32.toNatClampNeg (m.1 x0 1)) x1).1 x0 1)) x2).1 x0 1)) x3).1 x0 1)) (0 : Int32)).1 x0 1)) (0 : Int32)) (x0 + 8) (Int32.toNatClampNeg ((dc_wi (dc_wi (dc_wi (dc_wi (dc_wi m (x0 + 3) (Int32.toNatClampNeg (m.1 x0 1)) x1) (x0 + 4) (Int32.toNatClampNeg ((dc_wi m (x0 + 3) (Int32.toNatClampNeg (m.1 x0 1)) x1).1 x0 1)) x2) (x0 + 5) (Int32.toNatClampNeg ((dc_wi (dc_wi m (x0 + 3) (Int32.toNatClampNeg (m.1 x0 1)) x1) (x0 + 4) (Int32.toNatClampNeg ((dc_wi m (x0 + 3) (Int32.toNatClampNeg (m.1 x0 1)) x1).1 x0 1)) x2).1 x0 1)) x3) (x0 + 6) (Int32.toNatClampNeg ((dc_wi (dc_wi (dc_wi m (x0 + 3) (Int32.toNatClampNeg (m.1 x0 1)) x1) (x0 + 4) (Int32.toNatClampNeg ((dc_wi m (x0 + 3) (Int32.toNatClampNeg (m.1 x0 1)) x1).1 x0 1)) x2) (x0 + 5) (Int32.toNatClampNeg ((dc_wi (dc_wi m (x0 + 3) (Int32.toNatClampNeg (m.1 x0 1)) x1) (x0 + 4) (Int32.toNatClampNeg ((dc_wi m (x0 + 3) (Int32.toNatClampNeg (m.1 x0 1)) x1).1 x0 1)) x2).1 x0 1)) x3).1 x0 1)) (0 : Int32)) (x0 + 7) (Int32.toNatClampNeg ((dc_wi (dc_wi (dc_wi (dc_wi m (x0 + 3) (Int32.toNatClampNeg (m.1 x0 1)) x1) (x0 + 4) (Int32.toNatClampNeg ((dc_wi m (x0 + 3) (Int32.toNatClampNeg (m.1 x0 1)) x1).1 x0 1)) x2) (x0 + 5) (Int32.toNatClampNeg ((dc_wi (dc_wi m (x0 + 3) (Int32.toNatClampNeg (m.1 x0 1)) x1) (x0 + 4) (Int32.toNatClampNeg ((dc_wi m (x0 + 3) (Int32.toNatClampNeg (m.1 x0 1)) x1).1 x0 1)) x2).1 x0 1)) x3) (x0 + 6) (Int32.toNatClampNeg ((dc_wi (dc_wi (dc_wi m (x0 + 3) (Int32.toNatClampNeg (m.1 x0 1)) x1) (x0 + 4) (Int32.toNatClampNeg ((dc_wi m (x0 + 3) (Int32.toNatClampNeg (m.1 x0 1)) x1).1 x0 1)) x2) (x0 + 5) (Int32.toNatClampNeg ((dc_wi (dc_wi m (x0 + 3) (Int32.toNatClampNeg (m.1 x0 1)) x1) (x0 + 4) (Int32.toNatClampNeg ((dc_wi m (x0 + 3) (Int32.toNatClampNeg (m.1 x0 1)) x1).1 x0 1)) x2).1 x0 1)) x3).1 x0 1)) (0 : Int32)).1 x0 1)) (0 : Int32)).1 x0 1)) (1 : Int32)).1 x0 1) + (1 : Int32))) [.int ((dc_wi (dc_wi (dc_wi (dc_wi (dc_wi (dc_wi m (x0 + 3) (Int32.toNatClampNeg (m.1 x0 1)) x1) (x0 + 4) (Int32.toNatClampNeg ((dc_wi m (x0 + 3) (Int32.toNatClampNeg (m.1 x0 1)) x1).1 x0 1)) x2) (x0 + 5) (Int32.toNatClampNeg ((dc_wi (dc_wi m (x0 + 3) (Int32.toNatClampNeg (m.1 x0 1)) x1) (x0 + 4) (Int32.toNatClampNeg ((dc_wi m (x0 + 3) (Int32.toNatClampNeg (m.1 x0 1)) x1).1 x0 1)) x2).1 x0 1)) x3) (x0 + 6) (Int32.toNatClampNeg ((dc_wi (dc_wi (dc_wi m (x0 + 3) (Int32.toNatClampNeg (m.1 x0 1)) x1) (x0 + 4) (Int32.toNatClampNeg ((dc_wi m (x0 + 3) (Int32.toNatClampNeg (m.1 x0 1)) x1).1 x0 1)) x2) (x0 + 5) (Int32.toNatClampNeg ((dc_wi (dc_wi m (x0 + 3) (Int32.toNatClampNeg (m.1 x0 1)) x1) (x0 + 4) (Int32.toNatClampNeg ((dc_wi m (x0 + 3) (Int32.toNatClampNeg (m.1 x0 1)) x1).1 x0 1)) x2).1 x0 1)) x3).1 x0 1)) (0 : Int32)) (x0 + 7) (Int32.toNatClampNeg ((dc_wi (dc_wi (dc_wi (dc_wi m (x0 + 3) (Int32.toNatClampNeg (m.1 x0 1)) x1) (x0 + 4) (Int32.toNatClampNeg ((dc_wi m (x0 + 3) (Int32.toNatClampNeg (m.1 x0 1)) x1).1 x0 1)) x2) (x0 + 5) (Int32.toNatClampNeg ((dc_wi (dc_wi m (x0 + 3) (Int32.toNatClampNeg (m.1 x0 1)) x1) (x0 + 4) (Int32.toNatClampNeg ((dc_wi m (x0 + 3) (Int32.toNatClampNeg (m.1 x0 1)) x1).1 x0 1)) x2).1 x0 1)) x3) (x0 + 6) (Int32.toNatClampNeg ((dc_wi (dc_wi (dc_wi m (x0 + 3) (Int32.toNatClampNeg (m.1 x0 1)) x1) (x0 + 4) (Int32.toNatClampNeg ((dc_wi m (x0 + 3) (Int32.toNatClampNeg (m.1 x0 1)) x1).1 x0 1)) x2) (x0 + 5) (Int32.toNatClampNeg ((dc_wi (dc_wi m (x0 + 3) (Int32.toNatClampNeg (m.1 x0 1)) x1) (x0 + 4) (Int32.toNatClampNeg ((dc_wi m (x0 + 3) (Int32.toNatClampNeg (m.1 x0 1)) x1).1 x0 1)) x2).1 x0 1)) x3).1 x0 1)) (0 : Int32)).1 x0 1)) (0 : Int32)) (x0 + 8) (Int32.toNatClampNeg ((dc_wi (dc_wi (dc_wi (dc_wi (dc_wi m (x0 + 3) (Int32.toNatClampNeg (m.1 x0 1)) x1) (x0 + 4) (Int32.toNatClampNeg ((dc_wi m (x0 + 3) (Int32.toNatClampNeg (m.1 x0 1)) x1).1 x0 1)) x2) (x0 + 5) (Int32.toNatClampNeg ((dc_wi (dc_wi m (x0 + 3) (Int32.toNatClampNeg (m.1 x0 1)) x1) (x0 + 4) (Int32.toNatClampNeg ((dc_wi m (x0 + 3) (Int32.toNatClampNeg (m.1 x0 1)) x1).1 x0 1)) x2).1 x0 1)) x3) (x0 + 6) (Int32.toNatClampNeg ((dc_wi (dc_wi (dc_wi m (x0 + 3) (Int32.toNatClampNeg (m.1 x0 1)) x1) (x0 + 4) (Int32.toNatClampNeg ((dc_wi m (x0 + 3) (Int32.toNatClampNeg (m.1 x0 1)) x1).1 x0 1)) x2) (x0 + 5) (Int32.toNatClampNeg ((dc_wi (dc_wi m (x0 + 3) (Int32.toNatClampNeg (m.1 x0 1)) x1) (x0 + 4) (Int32.toNatClampNeg ((dc_wi m (x0 + 3) (Int32.toNatClampNeg (m.1 x0 1)) x1).1 x0 1)) x2).1 x0 1)) x3).1 x0 1)) (0 : Int32)) (x0 + 7) (Int32.toNatClampNeg ((dc_wi (dc_wi (dc_wi (dc_wi m (x0 + 3) (Int32.toNatClampNeg (m.1 x0 1)) x1) (x0 + 4) (Int32.toNatClampNeg ((dc_wi m (x0 + 3) (Int32.toNatClampNeg (m.1 x0 1)) x1).1 x0 1)) x2) (x0 + 5) (Int32.toNatClampNeg ((dc_wi (dc_wi m (x0 + 3) (Int32.toNatClampNeg (m.1 x0 1)) x1) (x0 + 4) (Int32.toNatClampNeg ((dc_wi m (x0 + 3) (Int32.toNatClampNeg (m.1 x0 1)) x1).1 x0 1)) x2).1 x0 1)) x3) (x0 + 6) (Int32.toNatClampNeg ((dc_wi (dc_wi (dc_wi m (x0 + 3) (Int32.toNatClampNeg (m.1 x0 1)) x1) (x0 + 4) (Int32.toNatClampNeg ((dc_wi m (x0 + 3) (Int32.toNatClampNeg (m.1 x0 1)) x1).1 x0 1)) x2) (x0 + 5) (Int32.toNatClampNeg ((dc_wi (dc_wi m (x0 + 3) (Int32.toNatClampNeg (m.1 x0 1)) x1) (x0 + 4) (Int32.toNatClampNeg ((dc_wi m (x0 + 3) (Int32.toNatClampNeg (m.1 x0 1)) x1).1 x0 1)) x2).1 x0 1)) x3).1 x0 1)) (0 : Int32)).1 x0 1)) (0 : Int32)).1 x0 1)) (1 : Int32)).1 x0 1)] rfl (fun _ => rfl) rfl ?_
    exact dw_r (some (.inl (some (.int ((dc_wi (dc_wi (dc_wi (dc_wi (dc_wi (dc_wi m (x0 + 3) (Int32.toNatClampNeg (m.1 x0 1)) x1) (x0 + 4) (Int32.toNatClampNeg ((dc_wi m (x0 + 3) (Int32.toNatClampNeg (m.1 x0 1)) x1).1 x0 1)) x2) (x0 + 5) (Int32.toNatClampNeg ((dc_wi (dc_wi m (x0 + 3) (Int32.toNatClampNeg (m.1 x0 1)) x1) (x0 + 4) (Int32.toNatClampNeg ((dc_wi m (x0 + 3) (Int32.toNatClampNeg (m.1 x0 1)) x1).1 x0 1)) x2).1 x0 1)) x3) (x0 + 6) (Int32.toNatClampNeg ((dc_wi (dc_wi (dc_wi m (x0 + 3) (Int32.toNatClampNeg (m.1 x0 1)) x1) (x0 + 4) (Int32.toNatClampNeg ((dc_wi m (x0 + 3) (Int32.toNatClampNeg (m.1 x0 1)) x1).1 x0 1)) x2) (x0 + 5) (Int32.toNatClampNeg ((dc_wi (dc_wi m (x0 + 3) (Int32.toNatClampNeg (m.1 x0 1)) x1) (x0 + 4) (Int32.toNatClampNeg ((dc_wi m (x0 + 3) (Int32.toNatClampNeg (m.1 x0 1)) x1).1 x0 1)) x2).1 x0 1)) x3).1 x0 1)) (0 : Int32)) (x0 + 7) (Int32.toNatClampNeg ((dc_wi (dc_wi (dc_wi (dc_wi m (x0 + 3) (Int32.toNatClampNeg (m.1 x0 1)) x1) (x0 + 4) (Int32.toNatClampNeg ((dc_wi m (x0 + 3) (Int32.toNatClampNeg (m.1 x0 1)) x1).1 x0 1)) x2) (x0 + 5) (Int32.toNatClampNeg ((dc_wi (dc_wi m (x0 + 3) (Int32.toNatClampNeg (m.1 x0 1)) x1) (x0 + 4) (Int32.toNatClampNeg ((dc_wi m (x0 + 3) (Int32.toNatClampNeg (m.1 x0 1)) x1).1 x0 1)) x2).1 x0 1)) x3) (x0 + 6) (Int32.toNatClampNeg ((dc_wi (dc_wi (dc_wi m (x0 + 3) (Int32.toNatClampNeg (m.1 x0 1)) x1) (x0 + 4) (Int32.toNatClampNeg ((dc_wi m (x0 + 3) (Int32.toNatClampNeg (m.1 x0 1)) x1).1 x0 1)) x2) (x0 + 5) (Int32.toNatClampNeg ((dc_wi (dc_wi m (x0 + 3) (Int32.toNatClampNeg (m.1 x0 1)) x1) (x0 + 4) (Int32.toNatClampNeg ((dc_wi m (x0 + 3) (Int32.toNatClampNeg (m.1 x0 1)) x1).1 x0 1)) x2).1 x0 1)) x3).1 x0 1)) (0 : Int32)).1 x0 1)) (0 : Int32)) (x0 + 8) (Int32.toNatClampNeg ((dc_wi (dc_wi (dc_wi (dc_wi (dc_wi m (x0 + 3) (Int32.toNatClampNeg (m.1 x0 1)) x1) (x0 + 4) (Int32.toNatClampNeg ((dc_wi m (x0 + 3) (Int32.toNatClampNeg (m.1 x0 1)) x1).1 x0 1)) x2) (x0 + 5) (Int32.toNatClampNeg ((dc_wi (dc_wi m (x0 + 3) (Int32.toNatClampNeg (m.1 x0 1)) x1) (x0 + 4) (Int32.toNatClampNeg ((dc_wi m (x0 + 3) (Int32.toNatClampNeg (m.1 x0 1)) x1).1 x0 1)) x2).1 x0 1)) x3) (x0 + 6) (Int32.toNatClampNeg ((dc_wi (dc_wi (dc_wi m (x0 + 3) (Int32.toNatClampNeg (m.1 x0 1)) x1) (x0 + 4) (Int32.toNatClampNeg ((dc_wi m (x0 + 3) (Int32.toNatClampNeg (m.1 x0 1)) x1).1 x0 1)) x2) (x0 + 5) (Int32.toNatClampNeg ((dc_wi (dc_wi m (x0 + 3) (Int32.toNatClampNeg (m.1 x0 1)) x1) (x0 + 4) (Int32.toNatClampNeg ((dc_wi m (x0 + 3) (Int32.toNatClampNeg (m.1 x0 1)) x1).1 x0 1)) x2).1 x0 1)) x3).1 x0 1)) (0 : Int32)) (x0 + 7) (Int32.toNatClampNeg ((dc_wi (dc_wi (dc_wi (dc_wi m (x0 + 3) (Int32.toNatClampNeg (m.1 x0 1)) x1) (x0 + 4) (Int32.toNatClampNeg ((dc_wi m (x0 + 3) (Int32.toNatClampNeg (m.1 x0 1)) x1).1 x0 1)) x2) (x0 + 5) (Int32.toNatClampNeg ((dc_wi (dc_wi m (x0 + 3) (Int32.toNatClampNeg (m.1 x0 1)) x1) (x0 + 4) (Int32.toNatClampNeg ((dc_wi m (x0 + 3) (Int32.toNatClampNeg (m.1 x0 1)) x1).1 x0 1)) x2).1 x0 1)) x3) (x0 + 6) (Int32.toNatClampNeg ((dc_wi (dc_wi (dc_wi m (x0 + 3) (Int32.toNatClampNeg (m.1 x0 1)) x1) (x0 + 4) (Int32.toNatClampNeg ((dc_wi m (x0 + 3) (Int32.toNatClampNeg (m.1 x0 1)) x1).1 x0 1)) x2) (x0 + 5) (Int32.toNatClampNeg ((dc_wi (dc_wi m (x0 + 3) (Int32.toNatClampNeg (m.1 x0 1)) x1) (x0 + 4) (Int32.toNatClampNeg ((dc_wi m (x0 + 3) (Int32.toNatClampNeg (m.1 x0 1)) x1).1 x0 1)) x2).1 x0 1)) x3).1 x0 1)) (0 : Int32)).1 x0 1)) (0 : Int32)).1 x0 1)) (1 : Int32)).1 x0 1)), (dc_wi (dc_wi (dc_wi (dc_wi (dc_wi (dc_wi (dc_wi m (x0 + 3) (Int32.toNatClampNeg (m.1 x0 1)) x1) (x0 + 4) (Int32.toNatClampNeg ((dc_wi m (x0 + 3) (Int32.toNatClampNeg (m.1 x0 1)) x1).1 x0 1)) x2) (x0 + 5) (Int32.toNatClampNeg ((dc_wi (dc_wi m (x0 + 3) (Int32.toNatClampNeg (m.1 x0 1)) x1) (x0 + 4) (Int32.toNatClampNeg ((dc_wi m (x0 + 3) (Int32.toNatClampNeg (m.1 x0 1)) x1).1 x0 1)) x2).1 x0 1)) x3) (x0 + 6) (Int32.toNatClampNeg ((dc_wi (dc_wi (dc_wi m (x0 + 3) (Int32.toNatClampNeg (m.1 x0 1)) x1) (x0 + 4) (Int32.toNatClampNeg ((dc_wi m (x0 + 3) (Int32.toNatClampNeg (m.1 x0 1)) x1).1 x0 1)) x2) (x0 + 5) (Int32.toNatClampNeg ((dc_wi (dc_wi m (x0 + 3) (Int32.toNatClampNeg (m.1 x0 1)) x1) (x0 + 4) (Int32.toNatClampNeg ((dc_wi m (x0 + 3) (Int32.toNatClampNeg (m.1 x0 1)) x1).1 x0 1)) x2).1 x0 1)) x3).1 x0 1)) (0 : Int32)) (x0 + 7) (Int32.toNatClampNeg ((dc_wi (dc_wi (dc_wi (dc_wi m (x0 + 3) (Int32.toNatClampNeg (m.1 x0 1)) x1) (x0 + 4) (Int32.toNatClampNeg ((dc_wi m (x0 + 3) (Int32.toNatClampNeg (m.1 x0 1)) x1).1 x0 1)) x2) (x0 + 5) (Int32.toNatClampNeg ((dc_wi (dc_wi m (x0 + 3) (Int32.toNatClampNeg (m.1 x0 1)) x1) (x0 + 4) (Int32.toNatClampNeg ((dc_wi m (x0 + 3) (Int32.toNatClampNeg (m.1 x0 1)) x1).1 x0 1)) x2).1 x0 1)) x3) (x0 + 6) (Int32.toNatClampNeg ((dc_wi (dc_wi (dc_wi m (x0 + 3) (Int32.toNatClampNeg (m.1 x0 1)) x1) (x0 + 4) (Int32.toNatClampNeg ((dc_wi m (x0 + 3) (Int32.toNatClampNeg (m.1 x0 1)) x1).1 x0 1)) x2) (x0 + 5) (Int32.toNatClampNeg ((dc_wi (dc_wi m (x0 + 3) (Int32.toNatClampNeg (m.1 x0 1)) x1) (x0 + 4) (Int32.toNatClampNeg ((dc_wi m (x0 + 3) (Int32.toNatClampNeg (m.1 x0 1)) x1).1 x0 1)) x2).1 x0 1)) x3).1 x0 1)) (0 : Int32)).1 x0 1)) (0 : Int32)) (x0 + 8) (Int32.toNatClampNeg ((dc_wi (dc_wi (dc_wi (dc_wi (dc_wi m (x0 + 3) (Int32.toNatClampNeg (m.1 x0 1)) x1) (x0 + 4) (Int32.toNatClampNeg ((dc_wi m (x0 + 3) (Int32.toNatClampNeg (m.1 x0 1)) x1).1 x0 1)) x2) (x0 + 5) (Int32.toNatClampNeg ((dc_wi (dc_wi m (x0 + 3) (Int32.toNatClampNeg (m.1 x0 1)) x1) (x0 + 4) (Int32.toNatClampNeg ((dc_wi m (x0 + 3) (Int32.toNatClampNeg (m.1 x0 1)) x1).1 x0 1)) x2).1 x0 1)) x3) (x0 + 6) (Int32.toNatClampNeg ((dc_wi (dc_wi (dc_wi m (x0 + 3) (Int32.toNatClampNeg (m.1 x0 1)) x1) (x0 + 4) (Int32.toNatClampNeg ((dc_wi m (x0 + 3) (Int32.toNatClampNeg (m.1 x0 1)) x1).1 x0 1)) x2) (x0 + 5) (Int32.toNatClampNeg ((dc_wi (dc_wi m (x0 + 3) (Int32.toNatClampNeg (m.1 x0 1)) x1) (x0 + 4) (Int32.toNatClampNeg ((dc_wi m (x0 + 3) (Int32.toNatClampNeg (m.1 x0 1)) x1).1 x0 1)) x2).1 x0 1)) x3).1 x0 1)) (0 : Int32)) (x0 + 7) (Int32.toNatClampNeg ((dc_wi (dc_wi (dc_wi (dc_wi m (x0 + 3) (Int32.toNatClampNeg (m.1 x0 1)) x1) (x0 + 4) (Int32.toNatClampNeg ((dc_wi m (x0 + 3) (Int32.toNatClampNeg (m.1 x0 1)) x1).1 x0 1)) x2) (x0 + 5) (Int32.toNatClampNeg ((dc_wi (dc_wi m (x0 + 3) (Int32.toNatClampNeg (m.1 x0 1)) x1) (x0 + 4) (Int32.toNatClampNeg ((dc_wi m (x0 + 3) (Int32.toNatClampNeg (m.1 x0 1)) x1).1 x0 1)) x2).1 x0 1)) x3) (x0 + 6) (Int32.toNatClampNeg ((dc_wi (dc_wi (dc_wi m (x0 + 3) (Int32.toNatClampNeg (m.1 x0 1)) x1) (x0 + 4) (Int32.toNatClampNeg ((dc_wi m (x0 + 3) (Int32.toNatClampNeg (m.1 x0 1)) x1).1 x0 1)) x2) (x0 + 5) (Int32.toNatClampNeg ((dc_wi (dc_wi m (x0 + 3) (Int32.toNatClampNeg (m.1 x0 1)) x1) (x0 + 4) (Int32.toNatClampNeg ((dc_wi m (x0 + 3) (Int32.toNatClampNeg (m.1 x0 1)) x1).1 x0 1)) x2).1 x0 1)) x3).1 x0 1)) (0 : Int32)).1 x0 1)) (0 : Int32)).1 x0 1)) (1 : Int32)) x0 1 (((dc_wi (dc_wi (dc_wi (dc_wi (dc_wi (dc_wi m (x0 + 3) (Int32.toNatClampNeg (m.1 x0 1)) x1) (x0 + 4) (Int32.toNatClampNeg ((dc_wi m (x0 + 3) (Int32.toNatClampNeg (m.1 x0 1)) x1).1 x0 1)) x2) (x0 + 5) (Int32.toNatClampNeg ((dc_wi (dc_wi m (x0 + 3) (Int32.toNatClampNeg (m.1 x0 1)) x1) (x0 + 4) (Int32.toNatClampNeg ((dc_wi m (x0 + 3) (Int32.toNatClampNeg (m.1 x0 1)) x1).1 x0 1)) x2).1 x0 1)) x3) (x0 + 6) (Int32.toNatClampNeg ((dc_wi (dc_wi (dc_wi m (x0 + 3) (Int32.toNatClampNeg (m.1 x0 1)) x1) (x0 + 4) (Int32.toNatClampNeg ((dc_wi m (x0 + 3) (Int32.toNatClampNeg (m.1 x0 1)) x1).1 x0 1)) x2) (x0 + 5) (Int32.toNatClampNeg ((dc_wi (dc_wi m (x0 + 3) (Int32.toNatClampNeg (m.1 x0 1)) x1) (x0 + 4) (Int32.toNatClampNeg ((dc_wi m (x0 + 3) (Int32.toNatClampNeg (m.1 x0 1)) x1).1 x0 1)) x2).1 x0 1)) x3).1 x0 1)) (0 : Int32)) (x0 + 7) (Int32.toNatClampNeg ((dc_wi (dc_wi (dc_wi (dc_wi m (x0 + 3) (Int32.toNatClampNeg (m.1 x0 1)) x1) (x0 + 4) (Int32.toNatClampNeg ((dc_wi m (x0 + 3) (Int32.toNatClampNeg (m.1 x0 1)) x1).1 x0 1)) x2) (x0 + 5) (Int32.toNatClampNeg ((dc_wi (dc_wi m (x0 + 3) (Int32.toNatClampNeg (m.1 x0 1)) x1) (x0 + 4) (Int32.toNatClampNeg ((dc_wi m (x0 + 3) (Int32.toNatClampNeg (m.1 x0 1)) x1).1 x0 1)) x2).1 x0 1)) x3) (x0 + 6) (Int32.toNatClampNeg ((dc_wi (dc_wi (dc_wi m (x0 + 3) (Int32.toNatClampNeg (m.1 x0 1)) x1) (x0 + 4) (Int32.toNatClampNeg ((dc_wi m (x0 + 3) (Int32.toNatClampNeg (m.1 x0 1)) x1).1 x0 1)) x2) (x0 + 5) (Int32.toNatClampNeg ((dc_wi (dc_wi m (x0 + 3) (Int32.toNatClampNeg (m.1 x0 1)) x1) (x0 + 4) (Int32.toNatClampNeg ((dc_wi m (x0 + 3) (Int32.toNatClampNeg (m.1 x0 1)) x1).1 x0 1)) x2).1 x0 1)) x3).1 x0 1)) (0 : Int32)).1 x0 1)) (0 : Int32)) (x0 + 8) (Int32.toNatClampNeg ((dc_wi (dc_wi (dc_wi (dc_wi (dc_wi m (x0 + 3) (Int32.toNatClampNeg (m.1 x0 1)) x1) (x0 + 4) (Int32.toNatClampNeg ((dc_wi m (x0 + 3) (Int32.toNatClampNeg (m.1 x0 1)) x1).1 x0 1)) x2) (x0 + 5) (Int32.toNatClampNeg ((dc_wi (dc_wi m (x0 + 3) (Int32.toNatClampNeg (m.1 x0 1)) x1) (x0 + 4) (Int32.toNatClampNeg ((dc_wi m (x0 + 3) (Int32.toNatClampNeg (m.1 x0 1)) x1).1 x0 1)) x2).1 x0 1)) x3) (x0 + 6) (Int32.toNatClampNeg ((dc_wi (dc_wi (dc_wi m (x0 + 3) (Int32.toNatClampNeg (m.1 x0 1)) x1) (x0 + 4) (Int32.toNatClampNeg ((dc_wi m (x0 + 3) (Int32.toNatClampNeg (m.1 x0 1)) x1).1 x0 1)) x2) (x0 + 5) (Int32.toNatClampNeg ((dc_wi (dc_wi m (x0 + 3) (Int32.toNatClampNeg (m.1 x0 1)) x1) (x0 + 4) (Int32.toNatClampNeg ((dc_wi m (x0 + 3) (Int32.toNatClampNeg (m.1 x0 1)) x1).1 x0 1)) x2).1 x0 1)) x3).1 x0 1)) (0 : Int32)) (x0 + 7) (Int32.toNatClampNeg ((dc_wi (dc_wi (dc_wi (dc_wi m (x0 + 3) (Int32.toNatClampNeg (m.1 x0 1)) x1) (x0 + 4) (Int32.toNatClampNeg ((dc_wi m (x0 + 3) (Int32.toNatClampNeg (m.1 x0 1)) x1).1 x0 1)) x2) (x0 + 5) (Int32.toNatClampNeg ((dc_wi (dc_wi m (x0 + 3) (Int32.toNatClampNeg (m.1 x0 1)) x1) (x0 + 4) (Int32.toNatClampNeg ((dc_wi m (x0 + 3) (Int32.toNatClampNeg (m.1 x0 1)) x1).1 x0 1)) x2).1 x0 1)) x3) (x0 + 6) (Int32.toNatClampNeg ((dc_wi (dc_wi (dc_wi m (x0 + 3) (Int32.toNatClampNeg (m.1 x0 1)) x1) (x0 + 4) (Int32.toNatClampNeg ((dc_wi m (x0 + 3) (Int32.toNatClampNeg (m.1 x0 1)) x1).1 x0 1)) x2) (x0 + 5) (Int32.toNatClampNeg ((dc_wi (dc_wi m (x0 + 3) (Int32.toNatClampNeg (m.1 x0 1)) x1) (x0 + 4) (Int32.toNatClampNeg ((dc_wi m (x0 + 3) (Int32.toNatClampNeg (m.1 x0 1)) x1).1 x0 1)) x2).1 x0 1)) x3).1 x0 1)) (0 : Int32)).1 x0 1)) (0 : Int32)).1 x0 1)) (1 : Int32)).1 x0 1) + (1 : Int32)))))) rfl (fun _ => rfl) (kR _ _)
  · refine dw_g rfl ?_
    refine dg_s (pc' := 11) [.int (-4 : Int32)] rfl (fun _ => rfl) rfl ?_
    exact dw_r (some (.inl (some (.int (-4 : Int32)), m))) rfl (fun _ => rfl) (kR _ _)
def H_X3_addEvent : dc_H := fun As m k => match As with
  | [.ref x0, .int x1, .int x2, .int x3] => dc_let (d_X3_addEvent x0 x1 x2 x3 m) (fun q => k (some (.int q.1)) q.2)
  | _ => dc_kz
theorem H_X3_addEvent_ok {u : Nat} : dc_cok u 34 H_X3_addEvent := fun M' hG N As m k P hz hP => by
  obtain rfl : ab_M_X3_addEvent = M' := Option.some.inj hG
  unfold H_X3_addEvent at hP
  split at hP
  · rename_i x0 x1 x2 x3
    exact dc_pv.imp (k_X3_addEvent (Φ := fun (t : (Int32 × dc_M)) r m' => P (dc_let t (fun q => k (some (.int q.1)) q.2)) → P (k r m')) x0 x1 x2 x3 m (fun _ _ h => h) rfl rfl rfl rfl) (fun r m' h => h hP)
  · exact absurd hP hz
