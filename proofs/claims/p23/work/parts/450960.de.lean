/-! ===== methods as functions (written by a program) ===== -/
def C_X5_reduce : List (Nat × dc_H) := []
theorem CO_X5_reduce {u : Nat} : dc_CO u C_X5_reduce := dc_CO_nil
def S_X5_reduce : List (Nat × List Nat) := [(12, [0, 1, 2, 3]), (38, [0, 1])]
noncomputable def d_X5_reduce_b38 (x0 : Nat) (x1 : Int32) (m : dc_M) : Option dc_M :=
  (if (Int32.toInt x1) ≤ 1 then some (m) else some ((dc_wi (dc_wi m x0 1 ((m.1 x0 1) / x1)) x0 2 (((dc_wi m x0 1 ((m.1 x0 1) / x1)).1 x0 2) / x1))))
set_option maxHeartbeats 8000000 in
theorem k_X5_reduce_b38 {u : Nat} {N : Nat} {Φ : (Option dc_M) → Option Value → dc_M → Prop} (x0 : Nat) (x1 : Int32) (m : dc_M) (kR : ∀  (m : dc_M), Φ (some (m)) (none) m)  {lv : ab_L} (f0 : ab_lk lv 0 = some (.ref x0)) (f1 : ab_lk lv 1 = some (.int x1)) : dc_pv u N ab_M_X5_reduce 38 lv [] m (Φ (d_X5_reduce_b38 x0 x1 m)) := by
  refine dc_pv.mono (dc_ok (C := C_X5_reduce) (S := S_X5_reduce) CO_X5_reduce 400 38 [(0, .ref x0), (1, .int x1)] lv [] m (dc_sub_cons f0 (dc_sub_cons f1 (dc_sub_nil))) ?_) (Nat.le_succ N)
  unfold d_X5_reduce_b38
  refine dg_s (pc' := 39) [.int x1] rfl (fun _ => rfl) rfl ?_
  refine dg_s (pc' := 40) [.int (1 : Int32), .int x1] rfl (fun _ => rfl) rfl ?_
  refine dw_if (fun t => Φ t) ((Int32.toInt x1) ≤ 1) [] 63 43 rfl (fun _ => rfl) (fun c0 => ?_) (fun c0 => ?_)
  · refine dw_g rfl ?_
    exact dw_r (some (.inl (none, m))) rfl (fun _ => rfl) (kR _)
  · refine dw_g rfl ?_
    refine dg_s (pc' := 44) [.ref x0] rfl (fun _ => rfl) rfl ?_
    refine dg_s (pc' := 45) [.ref x0, .ref x0] rfl (fun _ => rfl) rfl ?_
    refine dg_s (pc' := 48) [.int (m.1 x0 1), .ref x0] rfl (fun _ => rfl) rfl ?_
    refine dg_s (pc' := 49) [.int x1, .int (m.1 x0 1), .ref x0] rfl (fun _ => rfl) rfl ?_
    refine dg_s (pc' := 50) [.int ((m.1 x0 1) / x1), .ref x0] rfl (fun _ => rfl) rfl ?_
    refine dg_m (pc' := 53) (dc_wi m x0 1 ((m.1 x0 1) / x1)) [] rfl (fun _ => rfl) rfl ?_
    refine dg_s (pc' := 54) [.ref x0] rfl (fun _ => rfl) rfl ?_
    refine dg_s (pc' := 55) [.ref x0, .ref x0] rfl (fun _ => rfl) rfl ?_
    refine dg_s (pc' := 58) [.int ((dc_wi m x0 1 ((m.1 x0 1) / x1)).1 x0 2), .ref x0] rfl (fun _ => rfl) rfl ?_
    refine dg_s (pc' := 59) [.int x1, .int ((dc_wi m x0 1 ((m.1 x0 1) / x1)).1 x0 2), .ref x0] rfl (fun _ => rfl) rfl ?_
    refine dg_s (pc' := 60) [.int (((dc_wi m x0 1 ((m.1 x0 1) / x1)).1 x0 2) / x1), .ref x0] rfl (fun _ => rfl) rfl ?_
    refine dg_m (pc' := 63) (dc_wi (dc_wi m x0 1 ((m.1 x0 1) / x1)) x0 2 (((dc_wi m x0 1 ((m.1 x0 1) / x1)).1 x0 2) / x1)) [] rfl (fun _ => rfl) rfl ?_
    exact dw_r (some (.inl (none, (dc_wi (dc_wi m x0 1 ((m.1 x0 1) / x1)) x0 2 (((dc_wi m x0 1 ((m.1 x0 1) / x1)).1 x0 2) / x1))))) rfl (fun _ => rfl) (kR _)
noncomputable def d_X5_reduce_l12b (x0 : Nat) (x1 : Int32) (x2 : Int32) (x3 : Int32) (m : dc_M) : Option ((Int32 × Int32 × Int32) ⊕ dc_M) :=
  (if 100 ≤ (Int32.toInt x3) then ((d_X5_reduce_b38 x0 x1 m).map (fun z => Sum.inr (z))) else (if (Int32.toInt x2) = 0 then ((d_X5_reduce_b38 x0 x1 m).map (fun z => Sum.inr (z))) else some (Sum.inl (x2, (x1 - x1 / x2 * x2), (x3 + (1 : Int32))))))
noncomputable def d_X5_reduce_l12s (x0 : Nat) (m : dc_M) : (Int32 × Int32 × Int32) → Option ((Int32 × Int32 × Int32) ⊕ dc_M) := fun s => d_X5_reduce_l12b x0 s.1 s.2.1 s.2.2 m
noncomputable def d_X5_reduce_l12 (x0 : Nat) (x1 : Int32) (x2 : Int32) (x3 : Int32) (m : dc_M) : Option dc_M := dc_lp (d_X5_reduce_l12s x0 m) (x1, x2, x3)
set_option maxHeartbeats 8000000 in
theorem k_X5_reduce_l12 {u : Nat} {Φ : (Option dc_M) → Option Value → dc_M → Prop} (x0 : Nat) (m : dc_M) (kR : ∀  (m : dc_M), Φ (some (m)) (none) m) : ∀ (N : Nat), ∀ (x1 : Int32) (x2 : Int32) (x3 : Int32) (lv : ab_L), ab_lk lv 0 = some (.ref x0) → ab_lk lv 1 = some (.int x1) → ab_lk lv 2 = some (.int x2) → ab_lk lv 3 = some (.int x3) → dc_pv u N ab_M_X5_reduce 12 lv [] m (Φ (d_X5_reduce_l12 x0 x1 x2 x3 m)) := by
  intro N
  induction N with
  | zero => intros; exact dc_pv_zero
  | succ N ih =>
    intro x1 x2 x3 lv f0 f1 f2 f3
    refine dc_ok (C := C_X5_reduce) (S := S_X5_reduce) CO_X5_reduce 400 12 [(0, .ref x0), (1, .int x1), (2, .int x2), (3, .int x3)] lv [] m (dc_sub_cons f0 (dc_sub_cons f1 (dc_sub_cons f2 (dc_sub_cons f3 (dc_sub_nil))))) ?_
    unfold d_X5_reduce_l12
    rw [dc_lp_eq]
    show (fun t x => dc_lf u N ab_M_X5_reduce (Φ (Option.bind t (dc_bk (d_X5_reduce_l12s x0 m)))) x) (d_X5_reduce_l12b x0 x1 x2 x3 m) _
    dsimp only
    unfold d_X5_reduce_l12b
    refine dg_s (pc' := 13) [.int x3] rfl (fun _ => rfl) rfl ?_
    refine dg_s (pc' := 15) [.int (100 : Int32), .int x3] rfl (fun _ => rfl) rfl ?_
    refine dw_if (fun t => Φ (Option.bind t (dc_bk (d_X5_reduce_l12s x0 m)))) (100 ≤ (Int32.toInt x3)) [] 38 18 rfl (fun _ => rfl) (fun c0 => ?_) (fun c0 => ?_)
    · exact dw_j rfl (fun lv1 hv => k_X5_reduce_b38 (Φ := (fun t => Φ (Option.bind (t.map (fun z => Sum.inr (z))) (dc_bk (d_X5_reduce_l12s x0 m))))) x0 x1 m (fun _b => kR _b)  (hv.1 _ rfl) (hv.2.1 _ rfl))
    · refine dw_g rfl ?_
      refine dg_s (pc' := 19) [.int x2] rfl (fun _ => rfl) rfl ?_
      refine dw_if (fun t => Φ (Option.bind t (dc_bk (d_X5_reduce_l12s x0 m)))) ((Int32.toInt x2) = 0) [] 38 22 rfl (fun _ => rfl) (fun c1 => ?_) (fun c1 => ?_)
      · exact dw_j rfl (fun lv1 hv => k_X5_reduce_b38 (Φ := (fun t => Φ (Option.bind (t.map (fun z => Sum.inr (z))) (dc_bk (d_X5_reduce_l12s x0 m))))) x0 x1 m (fun _b => kR _b)  (hv.1 _ rfl) (hv.2.1 _ rfl))
      · refine dw_g rfl ?_
        refine dg_s (pc' := 23) [.int x1] rfl (fun _ => rfl) rfl ?_
        refine dg_s (pc' := 24) [.int x2, .int x1] rfl (fun _ => rfl) rfl ?_
        refine dg_s (pc' := 25) [.int (x1 - x1 / x2 * x2)] rfl (fun _ => rfl) rfl ?_
        refine dg_L (pc' := 27) [(4, .int (x1 - x1 / x2 * x2)), (0, .ref x0), (1, .int x1), (2, .int x2), (3, .int x3)] [] rfl (fun _ => rfl) rfl ?_
        refine dg_s (pc' := 28) [.int x2] rfl (fun _ => rfl) rfl ?_
        refine dg_L (pc' := 29) [(1, .int x2), (4, .int (x1 - x1 / x2 * x2)), (0, .ref x0), (2, .int x2), (3, .int x3)] [] rfl (fun _ => rfl) rfl ?_
        refine dg_s (pc' := 31) [.int (x1 - x1 / x2 * x2)] rfl (fun _ => rfl) rfl ?_
        refine dg_L (pc' := 32) [(2, .int (x1 - x1 / x2 * x2)), (1, .int x2), (4, .int (x1 - x1 / x2 * x2)), (0, .ref x0), (3, .int x3)] [] rfl (fun _ => rfl) rfl ?_
        refine dg_L (pc' := 35) [(3, .int (x3 + (1 : Int32))), (2, .int (x1 - x1 / x2 * x2)), (1, .int x2), (4, .int (x1 - x1 / x2 * x2)), (0, .ref x0)] [] rfl (fun _ => rfl) rfl ?_
        refine dw_s (pc' := 12) [] rfl (fun _ => rfl) ?_
        exact dw_j rfl (fun lv1 hv => ih x2 (x1 - x1 / x2 * x2) (x3 + (1 : Int32)) lv1 (hv.1 _ rfl) (hv.2.1 _ rfl) (hv.2.2.1 _ rfl) (hv.2.2.2.1 _ rfl))
noncomputable def d_X5_reduce (x0 : Nat) (m : dc_M) : Option dc_M :=
  (d_X5_reduce_l12 x0 (m.1 x0 1) (m.1 x0 2) (0 : Int32) m)
set_option maxHeartbeats 8000000 in
theorem k_X5_reduce {u : Nat} {N : Nat} {Φ : (Option dc_M) → Option Value → dc_M → Prop} (x0 : Nat) (m : dc_M) (kR : ∀  (m : dc_M), Φ (some (m)) (none) m)  {lv : ab_L} (f0 : ab_lk lv 0 = some (.ref x0)) : dc_pv u N ab_M_X5_reduce 0 lv [] m (Φ (d_X5_reduce x0 m)) := by
  refine dc_pv.mono (dc_ok (C := C_X5_reduce) (S := S_X5_reduce) CO_X5_reduce 400 0 [(0, .ref x0)] lv [] m (dc_sub_cons f0 (dc_sub_nil)) ?_) (Nat.le_succ N)
  unfold d_X5_reduce
  refine dg_s (pc' := 1) [.ref x0] rfl (fun _ => rfl) rfl ?_
  refine dg_s (pc' := 4) [.int (m.1 x0 1)] rfl (fun _ => rfl) rfl ?_
  refine dg_L (pc' := 5) [(1, .int (m.1 x0 1)), (0, .ref x0)] [] rfl (fun _ => rfl) rfl ?_
  refine dg_s (pc' := 6) [.ref x0] rfl (fun _ => rfl) rfl ?_
  refine dg_s (pc' := 9) [.int (m.1 x0 2)] rfl (fun _ => rfl) rfl ?_
  refine dg_L (pc' := 10) [(2, .int (m.1 x0 2)), (1, .int (m.1 x0 1)), (0, .ref x0)] [] rfl (fun _ => rfl) rfl ?_
  refine dg_s (pc' := 11) [.int (0 : Int32)] rfl (fun _ => rfl) rfl ?_
  refine dw_L (pc' := 12) [(3, .int (0 : Int32)), (2, .int (m.1 x0 2)), (1, .int (m.1 x0 1)), (0, .ref x0)] [] rfl (fun _ => rfl) ?_
  exact dw_j rfl (fun lv1 hv => k_X5_reduce_l12 (Φ := (fun t => Φ t)) x0 m (fun _b => kR _b) N  (m.1 x0 1) (m.1 x0 2) (0 : Int32) lv1 (hv.1 _ rfl) (hv.2.1 _ rfl) (hv.2.2.1 _ rfl) (hv.2.2.2.1 _ rfl))
noncomputable def H_X5_reduce : dc_H := fun As m k => match As with
  | [.ref x0] => (d_X5_reduce x0 m).bind (fun q => k (none) q)
  | _ => dc_kz
theorem H_X5_reduce_ok {u : Nat} : dc_cok u 72 H_X5_reduce := fun M' hG N As m k P hz hP => by
  obtain rfl : ab_M_X5_reduce = M' := Option.some.inj hG
  unfold H_X5_reduce at hP
  split at hP
  · rename_i x0
    exact dc_pv.imp (k_X5_reduce (Φ := fun (t : Option dc_M) r m' => P (t.bind (fun q => k (none) q)) → P (k r m')) x0 m (fun _ h => h) rfl) (fun r m' h => h hP)
  · exact absurd hP hz
noncomputable def C_X5_findBeat : List (Nat × dc_H) := [(72, H_X5_reduce)]
theorem CO_X5_findBeat {u : Nat} : dc_CO u C_X5_findBeat := dc_CO_cons H_X5_reduce_ok (dc_CO_nil)
def S_X5_findBeat : List (Nat × List Nat) := [(2, [0, 1, 2]), (9, [0, 1, 2, 3]), (80, [0, 1, 2, 3, 5]), (109, [0])]
noncomputable def d_X5_findBeat_b109 (x0 : Nat) (m : dc_M) : Option dc_M :=
  ((d_X5_reduce x0 m).bind (fun q1 => some (q1)))
set_option maxHeartbeats 8000000 in
theorem k_X5_findBeat_b109 {u : Nat} {N : Nat} {Φ : (Option dc_M) → Option Value → dc_M → Prop} (x0 : Nat) (m : dc_M) (kR : ∀  (m : dc_M), Φ (some (m)) (none) m)  {lv : ab_L} (f0 : ab_lk lv 0 = some (.ref x0)) : dc_pv u N ab_M_X5_findBeat 109 lv [] m (Φ (d_X5_findBeat_b109 x0 m)) := by
  refine dc_pv.mono (dc_ok (C := C_X5_findBeat) (S := S_X5_findBeat) CO_X5_findBeat 400 109 [(0, .ref x0)] lv [] m (dc_sub_cons f0 (dc_sub_nil)) ?_) (Nat.le_succ N)
  unfold d_X5_findBeat_b109
  refine dg_s (pc' := 110) [.ref x0] rfl (fun _ => rfl) rfl ?_
  refine dw_b (fun t => Φ t) (pc' := 113) (fun q1 => []) (fun q1 => q1) rfl (fun _ => rfl) (fun q1 => ?_)
  refine dw_g rfl ?_
  exact dw_r (some (.inl (none, q1))) rfl (fun _ => rfl) (kR _)
noncomputable def d_X5_findBeat_b80 (x0 : Nat) (x1 : Int32) (x2 : Int32) (x3 : Int32) (x5 : Int32) (m : dc_M) : Option ((Int32 × dc_M) ⊕ ((Int32 × dc_M) ⊕ dc_M)) :=
  (if (Int32.toInt x5) < 0 then some (Sum.inl ((x3 + (1 : Int32)), m)) else some (Sum.inl ((x3 + (1 : Int32)), (dc_wi m x0 3 ((m.1 x0 3) ||| ((1 : Int32) <<< (x2 &&& 31)))))))
set_option maxHeartbeats 8000000 in
theorem k_X5_findBeat_b80 {u : Nat} {N : Nat} {Φ : (Option ((Int32 × dc_M) ⊕ ((Int32 × dc_M) ⊕ dc_M))) → Option Value → dc_M → Prop} (x0 : Nat) (x1 : Int32) (x2 : Int32) (x3 : Int32) (x5 : Int32) (m : dc_M) (kR : ∀  (m : dc_M), Φ (some (Sum.inr (Sum.inr (m)))) (none) m) (k9 : ∀ (x3 : Int32) (m : dc_M) (lv : ab_L), ab_lk lv 0 = some (.ref x0) → ab_lk lv 1 = some (.int x1) → ab_lk lv 2 = some (.int x2) → ab_lk lv 3 = some (.int x3) →  dc_pv u N ab_M_X5_findBeat 9 lv [] m (Φ (some (Sum.inl (x3, m))))) (k2 : ∀ (x2 : Int32) (m : dc_M) (lv : ab_L), ab_lk lv 0 = some (.ref x0) → ab_lk lv 1 = some (.int x1) → ab_lk lv 2 = some (.int x2) →  dc_pv u N ab_M_X5_findBeat 2 lv [] m (Φ (some (Sum.inr (Sum.inl (x2, m)))))) {lv : ab_L} (f0 : ab_lk lv 0 = some (.ref x0)) (f1 : ab_lk lv 1 = some (.int x1)) (f2 : ab_lk lv 2 = some (.int x2)) (f3 : ab_lk lv 3 = some (.int x3)) (f5 : ab_lk lv 5 = some (.int x5)) : dc_pv u N ab_M_X5_findBeat 80 lv [] m (Φ (d_X5_findBeat_b80 x0 x1 x2 x3 x5 m)) := by
  refine dc_pv.mono (dc_ok (C := C_X5_findBeat) (S := S_X5_findBeat) CO_X5_findBeat 400 80 [(0, .ref x0), (1, .int x1), (2, .int x2), (3, .int x3), (5, .int x5)] lv [] m (dc_sub_cons f0 (dc_sub_cons f1 (dc_sub_cons f2 (dc_sub_cons f3 (dc_sub_cons f5 (dc_sub_nil)))))) ?_) (Nat.le_succ N)
  unfold d_X5_findBeat_b80
  refine dg_s (pc' := 82) [.int x5] rfl (fun _ => rfl) rfl ?_
  refine dw_if (fun t => Φ t) ((Int32.toInt x5) < 0) [] 97 85 rfl (fun _ => rfl) (fun c0 => ?_) (fun c0 => ?_)
  · refine dw_g rfl ?_
    refine dg_L (pc' := 100) [(3, .int (x3 + (1 : Int32))), (0, .ref x0), (1, .int x1), (2, .int x2), (5, .int x5)] [] rfl (fun _ => rfl) rfl ?_
    refine dw_s (pc' := 9) [] rfl (fun _ => rfl) ?_
    exact dw_j rfl (fun lv1 hv => k9 (x3 + (1 : Int32)) m lv1 (hv.1 _ rfl) (hv.2.1 _ rfl) (hv.2.2.1 _ rfl) (hv.2.2.2.1 _ rfl))
  · refine dw_g rfl ?_
    refine dg_s (pc' := 86) [.ref x0] rfl (fun _ => rfl) rfl ?_
    refine dg_s (pc' := 87) [.ref x0, .ref x0] rfl (fun _ => rfl) rfl ?_
    refine dg_s (pc' := 90) [.int (m.1 x0 3), .ref x0] rfl (fun _ => rfl) rfl ?_
    refine dg_s (pc' := 91) [.int (1 : Int32), .int (m.1 x0 3), .ref x0] rfl (fun _ => rfl) rfl ?_
    refine dg_s (pc' := 92) [.int x2, .int (1 : Int32), .int (m.1 x0 3), .ref x0] rfl (fun _ => rfl) rfl ?_
    refine dg_s (pc' := 93) [.int ((1 : Int32) <<< (x2 &&& 31)), .int (m.1 x0 3), .ref x0] rfl (fun _ => rfl) rfl ?_
    refine dg_s (pc' := 94) [.int ((m.1 x0 3) ||| ((1 : Int32) <<< (x2 &&& 31))), .ref x0] rfl (fun _ => rfl) rfl ?_
    refine dg_m (pc' := 97) (dc_wi m x0 3 ((m.1 x0 3) ||| ((1 : Int32) <<< (x2 &&& 31)))) [] rfl (fun _ => rfl) rfl ?_
    refine dg_L (pc' := 100) [(3, .int (x3 + (1 : Int32))), (0, .ref x0), (1, .int x1), (2, .int x2), (5, .int x5)] [] rfl (fun _ => rfl) rfl ?_
    refine dw_s (pc' := 9) [] rfl (fun _ => rfl) ?_
    exact dw_j rfl (fun lv1 hv => k9 (x3 + (1 : Int32)) (dc_wi m x0 3 ((m.1 x0 3) ||| ((1 : Int32) <<< (x2 &&& 31)))) lv1 (hv.1 _ rfl) (hv.2.1 _ rfl) (hv.2.2.1 _ rfl) (hv.2.2.2.1 _ rfl))
noncomputable def d_X5_findBeat_l9b (x0 : Nat) (x1 : Int32) (x2 : Int32) (x3 : Int32) (m : dc_M) : Option ((Int32 × dc_M) ⊕ ((Int32 × dc_M) ⊕ dc_M)) :=
  (if (Int32.toInt x1) < (Int32.toInt x3) then some (Sum.inr (Sum.inl ((x2 + (1 : Int32)), m))) else (if ¬ (Int32.toInt (m.1 (x0 + 6) (Int32.toNatClampNeg ((x2 * (17 : Int32)) + x3)))) = (-1) then (if (Int32.toInt (m.1 x0 2)) = 0 then (d_X5_findBeat_b80 x0 x1 x2 x3 (((m.1 (x0 + 6) (Int32.toNatClampNeg ((x2 * (17 : Int32)) + x3))) * (m.1 x0 2)) - ((m.1 x0 1) * x3)) (dc_wi (dc_wi (dc_wi m x0 1 (m.1 (x0 + 6) (Int32.toNatClampNeg ((x2 * (17 : Int32)) + x3)))) x0 2 x3) x0 3 (0 : Int32))) else (if (Int32.toInt (((m.1 (x0 + 6) (Int32.toNatClampNeg ((x2 * (17 : Int32)) + x3))) * (m.1 x0 2)) - ((m.1 x0 1) * x3))) ≤ 0 then (d_X5_findBeat_b80 x0 x1 x2 x3 (((m.1 (x0 + 6) (Int32.toNatClampNeg ((x2 * (17 : Int32)) + x3))) * (m.1 x0 2)) - ((m.1 x0 1) * x3)) m) else (d_X5_findBeat_b80 x0 x1 x2 x3 (((m.1 (x0 + 6) (Int32.toNatClampNeg ((x2 * (17 : Int32)) + x3))) * (m.1 x0 2)) - ((m.1 x0 1) * x3)) (dc_wi (dc_wi (dc_wi m x0 1 (m.1 (x0 + 6) (Int32.toNatClampNeg ((x2 * (17 : Int32)) + x3)))) x0 2 x3) x0 3 (0 : Int32))))) else some (Sum.inl ((x3 + (1 : Int32)), m))))
noncomputable def d_X5_findBeat_l9s (x0 : Nat) (x1 : Int32) (x2 : Int32) : (Int32 × dc_M) → Option ((Int32 × dc_M) ⊕ ((Int32 × dc_M) ⊕ dc_M)) := fun s => d_X5_findBeat_l9b x0 x1 x2 s.1 s.2
noncomputable def d_X5_findBeat_l9 (x0 : Nat) (x1 : Int32) (x2 : Int32) (x3 : Int32) (m : dc_M) : Option ((Int32 × dc_M) ⊕ dc_M) := dc_lp (d_X5_findBeat_l9s x0 x1 x2) (x3, m)
set_option maxHeartbeats 8000000 in
theorem k_X5_findBeat_l9 {u : Nat} {Φ : (Option ((Int32 × dc_M) ⊕ dc_M)) → Option Value → dc_M → Prop} (x0 : Nat) (x1 : Int32) (x2 : Int32) (kR : ∀  (m : dc_M), Φ (some (Sum.inr (m))) (none) m) : ∀ (N : Nat), (∀ (x2 : Int32) (m : dc_M) (lv : ab_L), ab_lk lv 0 = some (.ref x0) → ab_lk lv 1 = some (.int x1) → ab_lk lv 2 = some (.int x2) →  dc_pv u N ab_M_X5_findBeat 2 lv [] m (Φ (some (Sum.inl (x2, m))))) → ∀ (x3 : Int32) (m : dc_M) (lv : ab_L), ab_lk lv 0 = some (.ref x0) → ab_lk lv 1 = some (.int x1) → ab_lk lv 2 = some (.int x2) → ab_lk lv 3 = some (.int x3) → dc_pv u N ab_M_X5_findBeat 9 lv [] m (Φ (d_X5_findBeat_l9 x0 x1 x2 x3 m)) := by
  intro N
  induction N with
  | zero => intros; exact dc_pv_zero
  | succ N ih =>
    intro k2 x3 m lv f0 f1 f2 f3
    have k2 := fun a0 a1 a2 a3 a4 a5 => (k2 a0 a1 a2 a3 a4 a5).mono (Nat.le_succ N)
    have ih := ih k2
    refine dc_ok (C := C_X5_findBeat) (S := S_X5_findBeat) CO_X5_findBeat 400 9 [(0, .ref x0), (1, .int x1), (2, .int x2), (3, .int x3)] lv [] m (dc_sub_cons f0 (dc_sub_cons f1 (dc_sub_cons f2 (dc_sub_cons f3 (dc_sub_nil))))) ?_
    unfold d_X5_findBeat_l9
    rw [dc_lp_eq]
    show (fun t x => dc_lf u N ab_M_X5_findBeat (Φ (Option.bind t (dc_bk (d_X5_findBeat_l9s x0 x1 x2)))) x) (d_X5_findBeat_l9b x0 x1 x2 x3 m) _
    dsimp only
    unfold d_X5_findBeat_l9b
    refine dg_s (pc' := 10) [.int x3] rfl (fun _ => rfl) rfl ?_
    refine dg_s (pc' := 11) [.int x1, .int x3] rfl (fun _ => rfl) rfl ?_
    refine dw_if (fun t => Φ (Option.bind t (dc_bk (d_X5_findBeat_l9s x0 x1 x2)))) ((Int32.toInt x1) < (Int32.toInt x3)) [] 103 14 rfl (fun _ => rfl) (fun c0 => ?_) (fun c0 => ?_)
    · refine dw_g rfl ?_
      refine dg_L (pc' := 106) [(2, .int (x2 + (1 : Int32))), (0, .ref x0), (1, .int x1), (3, .int x3)] [] rfl (fun _ => rfl) rfl ?_
      refine dw_s (pc' := 2) [] rfl (fun _ => rfl) ?_
      exact dw_j rfl (fun lv1 hv => k2 (x2 + (1 : Int32)) m lv1 (hv.1 _ rfl) (hv.2.1 _ rfl) (hv.2.2.1 _ rfl))
    · refine dw_g rfl ?_
      refine dg_s (pc' := 15) [.ref x0] rfl (fun _ => rfl) rfl ?_
      refine dg_s (pc' := 18) [.ref (x0 + 6)] rfl (fun _ => rfl) rfl ?_
      refine dg_s (pc' := 19) [.int x2, .ref (x0 + 6)] rfl (fun _ => rfl) rfl ?_
      refine dg_s (pc' := 21) [.int (17 : Int32), .int x2, .ref (x0 + 6)] rfl (fun _ => rfl) rfl ?_
      refine dg_s (pc' := 22) [.int (x2 * (17 : Int32)), .ref (x0 + 6)] rfl (fun _ => rfl) rfl ?_
      refine dg_s (pc' := 23) [.int x3, .int (x2 * (17 : Int32)), .ref (x0 + 6)] rfl (fun _ => rfl) rfl ?_
      refine dg_s (pc' := 24) [.int ((x2 * (17 : Int32)) + x3), .ref (x0 + 6)] rfl (fun _ => rfl) rfl ?_
      refine dg_s (pc' := 25) [.int (m.1 (x0 + 6) (Int32.toNatClampNeg ((x2 * (17 : Int32)) + x3)))] rfl (fun _ => rfl) rfl ?_
      refine dg_L (pc' := 27) [(4, .int (m.1 (x0 + 6) (Int32.toNatClampNeg ((x2 * (17 : Int32)) + x3)))), (0, .ref x0), (1, .int x1), (2, .int x2), (3, .int x3)] [] rfl (fun _ => rfl) rfl ?_
      refine dg_s (pc' := 29) [.int (m.1 (x0 + 6) (Int32.toNatClampNeg ((x2 * (17 : Int32)) + x3)))] rfl (fun _ => rfl) rfl ?_
      refine dg_s (pc' := 30) [.int (-1 : Int32), .int (m.1 (x0 + 6) (Int32.toNatClampNeg ((x2 * (17 : Int32)) + x3)))] rfl (fun _ => rfl) rfl ?_
      refine dw_if (fun t => Φ (Option.bind t (dc_bk (d_X5_findBeat_l9s x0 x1 x2)))) (¬ (Int32.toInt (m.1 (x0 + 6) (Int32.toNatClampNeg ((x2 * (17 : Int32)) + x3)))) = (-1)) [] 36 33 rfl (fun _ => rfl) (fun c1 => ?_) (fun c1 => ?_)
      · refine dw_g rfl ?_
        refine dg_s (pc' := 38) [.int (m.1 (x0 + 6) (Int32.toNatClampNeg ((x2 * (17 : Int32)) + x3)))] rfl (fun _ => rfl) rfl ?_
        refine dg_s (pc' := 39) [.ref x0, .int (m.1 (x0 + 6) (Int32.toNatClampNeg ((x2 * (17 : Int32)) + x3)))] rfl (fun _ => rfl) rfl ?_
        refine dg_s (pc' := 42) [.int (m.1 x0 2), .int (m.1 (x0 + 6) (Int32.toNatClampNeg ((x2 * (17 : Int32)) + x3)))] rfl (fun _ => rfl) rfl ?_
        refine dg_s (pc' := 43) [.int ((m.1 (x0 + 6) (Int32.toNatClampNeg ((x2 * (17 : Int32)) + x3))) * (m.1 x0 2))] rfl (fun _ => rfl) rfl ?_
        refine dg_s (pc' := 44) [.ref x0, .int ((m.1 (x0 + 6) (Int32.toNatClampNeg ((x2 * (17 : Int32)) + x3))) * (m.1 x0 2))] rfl (fun _ => rfl) rfl ?_
        refine dg_s (pc' := 47) [.int (m.1 x0 1), .int ((m.1 (x0 + 6) (Int32.toNatClampNeg ((x2 * (17 : Int32)) + x3))) * (m.1 x0 2))] rfl (fun _ => rfl) rfl ?_
        refine dg_s (pc' := 48) [.int x3, .int (m.1 x0 1), .int ((m.1 (x0 + 6) (Int32.toNatClampNeg ((x2 * (17 : Int32)) + x3))) * (m.1 x0 2))] rfl (fun _ => rfl) rfl ?_
        refine dg_s (pc' := 49) [.int ((m.1 x0 1) * x3), .int ((m.1 (x0 + 6) (Int32.toNatClampNeg ((x2 * (17 : Int32)) + x3))) * (m.1 x0 2))] rfl (fun _ => rfl) rfl ?_
        refine dg_s (pc' := 50) [.int (((m.1 (x0 + 6) (Int32.toNatClampNeg ((x2 * (17 : Int32)) + x3))) * (m.1 x0 2)) - ((m.1 x0 1) * x3))] rfl (fun _ => rfl) rfl ?_
        refine dg_L (pc' := 52) [(5, .int (((m.1 (x0 + 6) (Int32.toNatClampNeg ((x2 * (17 : Int32)) + x3))) * (m.1 x0 2)) - ((m.1 x0 1) * x3))), (4, .int (m.1 (x0 + 6) (Int32.toNatClampNeg ((x2 * (17 : Int32)) + x3)))), (0, .ref x0), (1, .int x1), (2, .int x2), (3, .int x3)] [] rfl (fun _ => rfl) rfl ?_
        refine dg_s (pc' := 53) [.ref x0] rfl (fun _ => rfl) rfl ?_
        refine dg_s (pc' := 56) [.int (m.1 x0 2)] rfl (fun _ => rfl) rfl ?_
        refine dw_if (fun t => Φ (Option.bind t (dc_bk (d_X5_findBeat_l9s x0 x1 x2)))) ((Int32.toInt (m.1 x0 2)) = 0) [] 64 59 rfl (fun _ => rfl) (fun c2 => ?_) (fun c2 => ?_)
        · refine dw_g rfl ?_
          refine dg_s (pc' := 65) [.ref x0] rfl (fun _ => rfl) rfl ?_
          refine dg_s (pc' := 67) [.int (m.1 (x0 + 6) (Int32.toNatClampNeg ((x2 * (17 : Int32)) + x3))), .ref x0] rfl (fun _ => rfl) rfl ?_
          refine dg_m (pc' := 70) (dc_wi m x0 1 (m.1 (x0 + 6) (Int32.toNatClampNeg ((x2 * (17 : Int32)) + x3)))) [] rfl (fun _ => rfl) rfl ?_
          refine dg_s (pc' := 71) [.ref x0] rfl (fun _ => rfl) rfl ?_
          refine dg_s (pc' := 72) [.int x3, .ref x0] rfl (fun _ => rfl) rfl ?_
          refine dg_m (pc' := 75) (dc_wi (dc_wi m x0 1 (m.1 (x0 + 6) (Int32.toNatClampNeg ((x2 * (17 : Int32)) + x3)))) x0 2 x3) [] rfl (fun _ => rfl) rfl ?_
          refine dg_s (pc' := 76) [.ref x0] rfl (fun _ => rfl) rfl ?_
          refine dg_s (pc' := 77) [.int (0 : Int32), .ref x0] rfl (fun _ => rfl) rfl ?_
          refine dw_m (pc' := 80) (dc_wi (dc_wi (dc_wi m x0 1 (m.1 (x0 + 6) (Int32.toNatClampNeg ((x2 * (17 : Int32)) + x3)))) x0 2 x3) x0 3 (0 : Int32)) [] rfl (fun _ => rfl) ?_
          exact dw_j rfl (fun lv1 hv => k_X5_findBeat_b80 (Φ := (fun t => Φ (Option.bind t (dc_bk (d_X5_findBeat_l9s x0 x1 x2))))) x0 x1 x2 x3 (((m.1 (x0 + 6) (Int32.toNatClampNeg ((x2 * (17 : Int32)) + x3))) * (m.1 x0 2)) - ((m.1 x0 1) * x3)) (dc_wi (dc_wi (dc_wi m x0 1 (m.1 (x0 + 6) (Int32.toNatClampNeg ((x2 * (17 : Int32)) + x3)))) x0 2 x3) x0 3 (0 : Int32)) (fun _b => kR _b) ih k2 (hv.1 _ rfl) (hv.2.1 _ rfl) (hv.2.2.1 _ rfl) (hv.2.2.2.1 _ rfl) (hv.2.2.2.2.1 _ rfl))
        · refine dw_g rfl ?_
          refine dg_s (pc' := 61) [.int (((m.1 (x0 + 6) (Int32.toNatClampNeg ((x2 * (17 : Int32)) + x3))) * (m.1 x0 2)) - ((m.1 x0 1) * x3))] rfl (fun _ => rfl) rfl ?_
          refine dw_if (fun t => Φ (Option.bind t (dc_bk (d_X5_findBeat_l9s x0 x1 x2)))) ((Int32.toInt (((m.1 (x0 + 6) (Int32.toNatClampNeg ((x2 * (17 : Int32)) + x3))) * (m.1 x0 2)) - ((m.1 x0 1) * x3))) ≤ 0) [] 80 64 rfl (fun _ => rfl) (fun c3 => ?_) (fun c3 => ?_)
          · exact dw_j rfl (fun lv1 hv => k_X5_findBeat_b80 (Φ := (fun t => Φ (Option.bind t (dc_bk (d_X5_findBeat_l9s x0 x1 x2))))) x0 x1 x2 x3 (((m.1 (x0 + 6) (Int32.toNatClampNeg ((x2 * (17 : Int32)) + x3))) * (m.1 x0 2)) - ((m.1 x0 1) * x3)) m (fun _b => kR _b) ih k2 (hv.1 _ rfl) (hv.2.1 _ rfl) (hv.2.2.1 _ rfl) (hv.2.2.2.1 _ rfl) (hv.2.2.2.2.1 _ rfl))
          · refine dw_g rfl ?_
            refine dg_s (pc' := 65) [.ref x0] rfl (fun _ => rfl) rfl ?_
            refine dg_s (pc' := 67) [.int (m.1 (x0 + 6) (Int32.toNatClampNeg ((x2 * (17 : Int32)) + x3))), .ref x0] rfl (fun _ => rfl) rfl ?_
            refine dg_m (pc' := 70) (dc_wi m x0 1 (m.1 (x0 + 6) (Int32.toNatClampNeg ((x2 * (17 : Int32)) + x3)))) [] rfl (fun _ => rfl) rfl ?_
            refine dg_s (pc' := 71) [.ref x0] rfl (fun _ => rfl) rfl ?_
            refine dg_s (pc' := 72) [.int x3, .ref x0] rfl (fun _ => rfl) rfl ?_
            refine dg_m (pc' := 75) (dc_wi (dc_wi m x0 1 (m.1 (x0 + 6) (Int32.toNatClampNeg ((x2 * (17 : Int32)) + x3)))) x0 2 x3) [] rfl (fun _ => rfl) rfl ?_
            refine dg_s (pc' := 76) [.ref x0] rfl (fun _ => rfl) rfl ?_
            refine dg_s (pc' := 77) [.int (0 : Int32), .ref x0] rfl (fun _ => rfl) rfl ?_
            refine dw_m (pc' := 80) (dc_wi (dc_wi (dc_wi m x0 1 (m.1 (x0 + 6) (Int32.toNatClampNeg ((x2 * (17 : Int32)) + x3)))) x0 2 x3) x0 3 (0 : Int32)) [] rfl (fun _ => rfl) ?_
            exact dw_j rfl (fun lv1 hv => k_X5_findBeat_b80 (Φ := (fun t => Φ (Option.bind t (dc_bk (d_X5_findBeat_l9s x0 x1 x2))))) x0 x1 x2 x3 (((m.1 (x0 + 6) (Int32.toNatClampNeg ((x2 * (17 : Int32)) + x3))) * (m.1 x0 2)) - ((m.1 x0 1) * x3)) (dc_wi (dc_wi (dc_wi m x0 1 (m.1 (x0 + 6) (Int32.toNatClampNeg ((x2 * (17 : Int32)) + x3)))) x0 2 x3) x0 3 (0 : Int32)) (fun _b => kR _b) ih k2 (hv.1 _ rfl) (hv.2.1 _ rfl) (hv.2.2.1 _ rfl) (hv.2.2.2.1 _ rfl) (hv.2.2.2.2.1 _ rfl))
      · refine dw_g rfl ?_
        refine dg_s (pc' := 97) [] rfl (fun _ => rfl) rfl ?_
        refine dg_L (pc' := 100) [(3, .int (x3 + (1 : Int32))), (4, .int (m.1 (x0 + 6) (Int32.toNatClampNeg ((x2 * (17 : Int32)) + x3)))), (0, .ref x0), (1, .int x1), (2, .int x2)] [] rfl (fun _ => rfl) rfl ?_
        refine dw_s (pc' := 9) [] rfl (fun _ => rfl) ?_
        exact dw_j rfl (fun lv1 hv => ih (x3 + (1 : Int32)) m lv1 (hv.1 _ rfl) (hv.2.1 _ rfl) (hv.2.2.1 _ rfl) (hv.2.2.2.1 _ rfl))
noncomputable def d_X5_findBeat_l2b (x0 : Nat) (x1 : Int32) (x2 : Int32) (m : dc_M) : Option ((Int32 × dc_M) ⊕ dc_M) :=
  (if (Int32.toInt x1) ≤ (Int32.toInt x2) then ((d_X5_findBeat_b109 x0 m).map (fun z => Sum.inr (z))) else (d_X5_findBeat_l9 x0 x1 x2 (1 : Int32) m))
noncomputable def d_X5_findBeat_l2s (x0 : Nat) (x1 : Int32) : (Int32 × dc_M) → Option ((Int32 × dc_M) ⊕ dc_M) := fun s => d_X5_findBeat_l2b x0 x1 s.1 s.2
noncomputable def d_X5_findBeat_l2 (x0 : Nat) (x1 : Int32) (x2 : Int32) (m : dc_M) : Option dc_M := dc_lp (d_X5_findBeat_l2s x0 x1) (x2, m)
set_option maxHeartbeats 8000000 in
theorem k_X5_findBeat_l2 {u : Nat} {Φ : (Option dc_M) → Option Value → dc_M → Prop} (x0 : Nat) (x1 : Int32) (kR : ∀  (m : dc_M), Φ (some (m)) (none) m) : ∀ (N : Nat), ∀ (x2 : Int32) (m : dc_M) (lv : ab_L), ab_lk lv 0 = some (.ref x0) → ab_lk lv 1 = some (.int x1) → ab_lk lv 2 = some (.int x2) → dc_pv u N ab_M_X5_findBeat 2 lv [] m (Φ (d_X5_findBeat_l2 x0 x1 x2 m)) := by
  intro N
  induction N with
  | zero => intros; exact dc_pv_zero
  | succ N ih =>
    intro x2 m lv f0 f1 f2
    refine dc_ok (C := C_X5_findBeat) (S := S_X5_findBeat) CO_X5_findBeat 400 2 [(0, .ref x0), (1, .int x1), (2, .int x2)] lv [] m (dc_sub_cons f0 (dc_sub_cons f1 (dc_sub_cons f2 (dc_sub_nil)))) ?_
    unfold d_X5_findBeat_l2
    rw [dc_lp_eq]
    show (fun t x => dc_lf u N ab_M_X5_findBeat (Φ (Option.bind t (dc_bk (d_X5_findBeat_l2s x0 x1)))) x) (d_X5_findBeat_l2b x0 x1 x2 m) _
    dsimp only
    unfold d_X5_findBeat_l2b
    refine dg_s (pc' := 3) [.int x2] rfl (fun _ => rfl) rfl ?_
    refine dg_s (pc' := 4) [.int x1, .int x2] rfl (fun _ => rfl) rfl ?_
    refine dw_if (fun t => Φ (Option.bind t (dc_bk (d_X5_findBeat_l2s x0 x1)))) ((Int32.toInt x1) ≤ (Int32.toInt x2)) [] 109 7 rfl (fun _ => rfl) (fun c0 => ?_) (fun c0 => ?_)
    · exact dw_j rfl (fun lv1 hv => k_X5_findBeat_b109 (Φ := (fun t => Φ (Option.bind (t.map (fun z => Sum.inr (z))) (dc_bk (d_X5_findBeat_l2s x0 x1))))) x0 m (fun _b => kR _b)  (hv.1 _ rfl))
    · refine dw_g rfl ?_
      refine dg_s (pc' := 8) [.int (1 : Int32)] rfl (fun _ => rfl) rfl ?_
      refine dw_L (pc' := 9) [(3, .int (1 : Int32)), (0, .ref x0), (1, .int x1), (2, .int x2)] [] rfl (fun _ => rfl) ?_
      exact dw_j rfl (fun lv1 hv => k_X5_findBeat_l9 (Φ := (fun t => Φ (Option.bind t (dc_bk (d_X5_findBeat_l2s x0 x1))))) x0 x1 x2 (fun _b => kR _b) N ih (1 : Int32) m lv1 (hv.1 _ rfl) (hv.2.1 _ rfl) (hv.2.2.1 _ rfl) (hv.2.2.2.1 _ rfl))
noncomputable def d_X5_findBeat (x0 : Nat) (x1 : Int32) (m : dc_M) : Option dc_M :=
  (d_X5_findBeat_l2 x0 x1 (0 : Int32) m)
set_option maxHeartbeats 8000000 in
theorem k_X5_findBeat {u : Nat} {N : Nat} {Φ : (Option dc_M) → Option Value → dc_M → Prop} (x0 : Nat) (x1 : Int32) (m : dc_M) (kR : ∀  (m : dc_M), Φ (some (m)) (none) m)  {lv : ab_L} (f0 : ab_lk lv 0 = some (.ref x0)) (f1 : ab_lk lv 1 = some (.int x1)) : dc_pv u N ab_M_X5_findBeat 0 lv [] m (Φ (d_X5_findBeat x0 x1 m)) := by
  refine dc_pv.mono (dc_ok (C := C_X5_findBeat) (S := S_X5_findBeat) CO_X5_findBeat 400 0 [(0, .ref x0), (1, .int x1)] lv [] m (dc_sub_cons f0 (dc_sub_cons f1 (dc_sub_nil))) ?_) (Nat.le_succ N)
  unfold d_X5_findBeat
  refine dg_s (pc' := 1) [.int (0 : Int32)] rfl (fun _ => rfl) rfl ?_
  refine dw_L (pc' := 2) [(2, .int (0 : Int32)), (0, .ref x0), (1, .int x1)] [] rfl (fun _ => rfl) ?_
  exact dw_j rfl (fun lv1 hv => k_X5_findBeat_l2 (Φ := (fun t => Φ t)) x0 x1 (fun _b => kR _b) N  (0 : Int32) m lv1 (hv.1 _ rfl) (hv.2.1 _ rfl) (hv.2.2.1 _ rfl))
noncomputable def H_X5_findBeat : dc_H := fun As m k => match As with
  | [.ref x0, .int x1] => (d_X5_findBeat x0 x1 m).bind (fun q => k (none) q)
  | _ => dc_kz
theorem H_X5_findBeat_ok {u : Nat} : dc_cok u 71 H_X5_findBeat := fun M' hG N As m k P hz hP => by
  obtain rfl : ab_M_X5_findBeat = M' := Option.some.inj hG
  unfold H_X5_findBeat at hP
  split at hP
  · rename_i x0 x1
    exact dc_pv.imp (k_X5_findBeat (Φ := fun (t : Option dc_M) r m' => P (t.bind (fun q => k (none) q)) → P (k r m')) x0 x1 m (fun _ h => h) rfl rfl) (fun r m' h => h hP)
  · exact absurd hP hz
def C_J9_max_7cf53 : List (Nat × dc_H) := []
theorem CO_J9_max_7cf53 {u : Nat} : dc_CO u C_J9_max_7cf53 := dc_CO_nil
def S_J9_max_7cf53 : List (Nat × List Nat) := []
def d_J9_max_7cf53 (x0 : Int32) (x1 : Int32) (m : dc_M) : Int32 :=
  (if (Int32.toInt x0) < (Int32.toInt x1) then x1 else x0)
set_option maxHeartbeats 8000000 in
theorem k_J9_max_7cf53 {u : Nat} {N : Nat} {Φ : Int32 → Option Value → dc_M → Prop} (x0 : Int32) (x1 : Int32) (m : dc_M) (kR : ∀ (v : Int32), Φ (v) (some (.int v)) m)  {lv : ab_L} (f0 : ab_lk lv 0 = some (.int x0)) (f1 : ab_lk lv 1 = some (.int x1)) : dc_pv u N ab_M_J9_max_7cf53 0 lv [] m (Φ (d_J9_max_7cf53 x0 x1 m)) := by
  refine dc_pv.mono (dc_ok (C := C_J9_max_7cf53) (S := S_J9_max_7cf53) CO_J9_max_7cf53 400 0 [(0, .int x0), (1, .int x1)] lv [] m (dc_sub_cons f0 (dc_sub_cons f1 (dc_sub_nil))) ?_) (Nat.le_succ N)
  unfold d_J9_max_7cf53
  refine dg_s (pc' := 1) [.int x0] rfl (fun _ => rfl) rfl ?_
  refine dg_s (pc' := 2) [.int x1, .int x0] rfl (fun _ => rfl) rfl ?_
  refine dw_if (fun t => Φ t) ((Int32.toInt x0) < (Int32.toInt x1)) [] 9 5 rfl (fun _ => rfl) (fun c0 => ?_) (fun c0 => ?_)
  · refine dw_g rfl ?_
    refine dg_s (pc' := 10) [.int x1] rfl (fun _ => rfl) rfl ?_
    exact dw_r (some (.inl (some (.int x1), m))) rfl (fun _ => rfl) (kR _)
  · refine dw_g rfl ?_
    refine dg_s (pc' := 6) [.int x0] rfl (fun _ => rfl) rfl ?_
    refine dg_s (pc' := 10) [.int x0] rfl (fun _ => rfl) rfl ?_
    exact dw_r (some (.inl (some (.int x0), m))) rfl (fun _ => rfl) (kR _)
def H_J9_max_7cf53 : dc_H := fun As m k => match As with
  | [.int x0, .int x1] => k (some (.int (d_J9_max_7cf53 x0 x1 m))) m
  | _ => dc_kz
theorem H_J9_max_7cf53_ok {u : Nat} : dc_cok u 230 H_J9_max_7cf53 := fun M' hG N As m k P hz hP => by
  obtain rfl : ab_M_J9_max_7cf53 = M' := Option.some.inj hG
  unfold H_J9_max_7cf53 at hP
  split at hP
  · rename_i x0 x1
    exact dc_pv.imp (k_J9_max_7cf53 (Φ := fun (t : Int32) r m' => P (k (some (.int t)) m) → P (k r m')) x0 x1 m (fun _  h => h) rfl rfl) (fun r m' h => h hP)
  · exact absurd hP hz
def C_X5_lengthen : List (Nat × dc_H) := [(230, H_J9_max_7cf53)]
theorem CO_X5_lengthen {u : Nat} : dc_CO u C_X5_lengthen := dc_CO_cons H_J9_max_7cf53_ok (dc_CO_nil)
def S_X5_lengthen : List (Nat × List Nat) := []
def d_X5_lengthen (x0 : Nat) (x1 : Nat) (x2 : Nat) (x3 : Int32) (m : dc_M) : dc_M :=
  (if (Int32.toInt (m.1 x1 (Int32.toNatClampNeg (m.1 (x0 + 1) (Int32.toNatClampNeg x3))))) = (-1) then m else (dc_wi m (m.2.2.1 x0 8) (Int32.toNatClampNeg (m.1 (x0 + 2) (Int32.toNatClampNeg x3))) (d_J9_max_7cf53 (m.1 (m.2.2.1 x0 8) (Int32.toNatClampNeg (m.1 (x0 + 2) (Int32.toNatClampNeg x3)))) ((m.1 x1 (Int32.toNatClampNeg (m.1 (x0 + 1) (Int32.toNatClampNeg x3)))) + (m.1 (x2 + 8) (Int32.toNatClampNeg (m.1 (x0 + 1) (Int32.toNatClampNeg x3))))) m)))
set_option maxHeartbeats 8000000 in
theorem k_X5_lengthen {u : Nat} {N : Nat} {Φ : dc_M → Option Value → dc_M → Prop} (x0 : Nat) (x1 : Nat) (x2 : Nat) (x3 : Int32) (m : dc_M) (kR : ∀  (m : dc_M), Φ (m) (none) m)  {lv : ab_L} (f0 : ab_lk lv 0 = some (.ref x0)) (f1 : ab_lk lv 1 = some (.ref x1)) (f2 : ab_lk lv 2 = some (.ref x2)) (f3 : ab_lk lv 3 = some (.int x3)) : dc_pv u N ab_M_X5_lengthen 0 lv [] m (Φ (d_X5_lengthen x0 x1 x2 x3 m)) := by
  refine dc_pv.mono (dc_ok (C := C_X5_lengthen) (S := S_X5_lengthen) CO_X5_lengthen 400 0 [(0, .ref x0), (1, .ref x1), (2, .ref x2), (3, .int x3)] lv [] m (dc_sub_cons f0 (dc_sub_cons f1 (dc_sub_cons f2 (dc_sub_cons f3 (dc_sub_nil))))) ?_) (Nat.le_succ N)
  unfold d_X5_lengthen
  refine dg_s (pc' := 1) [.ref x0] rfl (fun _ => rfl) rfl ?_
  refine dg_s (pc' := 4) [.ref (x0 + 1)] rfl (fun _ => rfl) rfl ?_
  refine dg_s (pc' := 5) [.int x3, .ref (x0 + 1)] rfl (fun _ => rfl) rfl ?_
  refine dg_s (pc' := 6) [.int (m.1 (x0 + 1) (Int32.toNatClampNeg x3))] rfl (fun _ => rfl) rfl ?_
  refine dg_L (pc' := 8) [(4, .int (m.1 (x0 + 1) (Int32.toNatClampNeg x3))), (0, .ref x0), (1, .ref x1), (2, .ref x2), (3, .int x3)] [] rfl (fun _ => rfl) rfl ?_
  refine dg_s (pc' := 9) [.ref x1] rfl (fun _ => rfl) rfl ?_
  refine dg_s (pc' := 11) [.int (m.1 (x0 + 1) (Int32.toNatClampNeg x3)), .ref x1] rfl (fun _ => rfl) rfl ?_
  refine dg_s (pc' := 12) [.int (m.1 x1 (Int32.toNatClampNeg (m.1 (x0 + 1) (Int32.toNatClampNeg x3))))] rfl (fun _ => rfl) rfl ?_
  refine dg_s (pc' := 13) [.int (-1 : Int32), .int (m.1 x1 (Int32.toNatClampNeg (m.1 (x0 + 1) (Int32.toNatClampNeg x3))))] rfl (fun _ => rfl) rfl ?_
  refine dw_if (fun t => Φ t) ((Int32.toInt (m.1 x1 (Int32.toNatClampNeg (m.1 (x0 + 1) (Int32.toNatClampNeg x3))))) = (-1)) [] 53 16 rfl (fun _ => rfl) (fun c0 => ?_) (fun c0 => ?_)
  · refine dw_g rfl ?_
    exact dw_r (some (.inl (none, m))) rfl (fun _ => rfl) (kR _)
  · refine dw_g rfl ?_
    refine dg_s (pc' := 17) [.ref x0] rfl (fun _ => rfl) rfl ?_
    refine dg_s (pc' := 20) [.ref (m.2.2.1 x0 8)] rfl (fun _ => rfl) rfl ?_
    refine dg_s (pc' := 21) [.ref x0, .ref (m.2.2.1 x0 8)] rfl (fun _ => rfl) rfl ?_
    refine dg_s (pc' := 24) [.ref (x0 + 2), .ref (m.2.2.1 x0 8)] rfl (fun _ => rfl) rfl ?_
    refine dg_s (pc' := 25) [.int x3, .ref (x0 + 2), .ref (m.2.2.1 x0 8)] rfl (fun _ => rfl) rfl ?_
    refine dg_s (pc' := 26) [.int (m.1 (x0 + 2) (Int32.toNatClampNeg x3)), .ref (m.2.2.1 x0 8)] rfl (fun _ => rfl) rfl ?_
    refine dg_s (pc' := 27) [.ref x0, .int (m.1 (x0 + 2) (Int32.toNatClampNeg x3)), .ref (m.2.2.1 x0 8)] rfl (fun _ => rfl) rfl ?_
    refine dg_s (pc' := 30) [.ref (m.2.2.1 x0 8), .int (m.1 (x0 + 2) (Int32.toNatClampNeg x3)), .ref (m.2.2.1 x0 8)] rfl (fun _ => rfl) rfl ?_
    refine dg_s (pc' := 31) [.ref x0, .ref (m.2.2.1 x0 8), .int (m.1 (x0 + 2) (Int32.toNatClampNeg x3)), .ref (m.2.2.1 x0 8)] rfl (fun _ => rfl) rfl ?_
    refine dg_s (pc' := 34) [.ref (x0 + 2), .ref (m.2.2.1 x0 8), .int (m.1 (x0 + 2) (Int32.toNatClampNeg x3)), .ref (m.2.2.1 x0 8)] rfl (fun _ => rfl) rfl ?_
    refine dg_s (pc' := 35) [.int x3, .ref (x0 + 2), .ref (m.2.2.1 x0 8), .int (m.1 (x0 + 2) (Int32.toNatClampNeg x3)), .ref (m.2.2.1 x0 8)] rfl (fun _ => rfl) rfl ?_
    refine dg_s (pc' := 36) [.int (m.1 (x0 + 2) (Int32.toNatClampNeg x3)), .ref (m.2.2.1 x0 8), .int (m.1 (x0 + 2) (Int32.toNatClampNeg x3)), .ref (m.2.2.1 x0 8)] rfl (fun _ => rfl) rfl ?_
    refine dg_s (pc' := 37) [.int (m.1 (m.2.2.1 x0 8) (Int32.toNatClampNeg (m.1 (x0 + 2) (Int32.toNatClampNeg x3)))), .int (m.1 (x0 + 2) (Int32.toNatClampNeg x3)), .ref (m.2.2.1 x0 8)] rfl (fun _ => rfl) rfl ?_
    refine dg_s (pc' := 38) [.ref x1, .int (m.1 (m.2.2.1 x0 8) (Int32.toNatClampNeg (m.1 (x0 + 2) (Int32.toNatClampNeg x3)))), .int (m.1 (x0 + 2) (Int32.toNatClampNeg x3)), .ref (m.2.2.1 x0 8)] rfl (fun _ => rfl) rfl ?_
    refine dg_s (pc' := 40) [.int (m.1 (x0 + 1) (Int32.toNatClampNeg x3)), .ref x1, .int (m.1 (m.2.2.1 x0 8) (Int32.toNatClampNeg (m.1 (x0 + 2) (Int32.toNatClampNeg x3)))), .int (m.1 (x0 + 2) (Int32.toNatClampNeg x3)), .ref (m.2.2.1 x0 8)] rfl (fun _ => rfl) rfl ?_
    refine dg_s (pc' := 41) [.int (m.1 x1 (Int32.toNatClampNeg (m.1 (x0 + 1) (Int32.toNatClampNeg x3)))), .int (m.1 (m.2.2.1 x0 8) (Int32.toNatClampNeg (m.1 (x0 + 2) (Int32.toNatClampNeg x3)))), .int (m.1 (x0 + 2) (Int32.toNatClampNeg x3)), .ref (m.2.2.1 x0 8)] rfl (fun _ => rfl) rfl ?_
    refine dg_s (pc' := 42) [.ref x2, .int (m.1 x1 (Int32.toNatClampNeg (m.1 (x0 + 1) (Int32.toNatClampNeg x3)))), .int (m.1 (m.2.2.1 x0 8) (Int32.toNatClampNeg (m.1 (x0 + 2) (Int32.toNatClampNeg x3)))), .int (m.1 (x0 + 2) (Int32.toNatClampNeg x3)), .ref (m.2.2.1 x0 8)] rfl (fun _ => rfl) rfl ?_
    refine dg_s (pc' := 45) [.ref (x2 + 8), .int (m.1 x1 (Int32.toNatClampNeg (m.1 (x0 + 1) (Int32.toNatClampNeg x3)))), .int (m.1 (m.2.2.1 x0 8) (Int32.toNatClampNeg (m.1 (x0 + 2) (Int32.toNatClampNeg x3)))), .int (m.1 (x0 + 2) (Int32.toNatClampNeg x3)), .ref (m.2.2.1 x0 8)] rfl (fun _ => rfl) rfl ?_
    refine dg_s (pc' := 47) [.int (m.1 (x0 + 1) (Int32.toNatClampNeg x3)), .ref (x2 + 8), .int (m.1 x1 (Int32.toNatClampNeg (m.1 (x0 + 1) (Int32.toNatClampNeg x3)))), .int (m.1 (m.2.2.1 x0 8) (Int32.toNatClampNeg (m.1 (x0 + 2) (Int32.toNatClampNeg x3)))), .int (m.1 (x0 + 2) (Int32.toNatClampNeg x3)), .ref (m.2.2.1 x0 8)] rfl (fun _ => rfl) rfl ?_
    refine dg_s (pc' := 48) [.int (m.1 (x2 + 8) (Int32.toNatClampNeg (m.1 (x0 + 1) (Int32.toNatClampNeg x3)))), .int (m.1 x1 (Int32.toNatClampNeg (m.1 (x0 + 1) (Int32.toNatClampNeg x3)))), .int (m.1 (m.2.2.1 x0 8) (Int32.toNatClampNeg (m.1 (x0 + 2) (Int32.toNatClampNeg x3)))), .int (m.1 (x0 + 2) (Int32.toNatClampNeg x3)), .ref (m.2.2.1 x0 8)] rfl (fun _ => rfl) rfl ?_
    refine dg_s (pc' := 49) [.int ((m.1 x1 (Int32.toNatClampNeg (m.1 (x0 + 1) (Int32.toNatClampNeg x3)))) + (m.1 (x2 + 8) (Int32.toNatClampNeg (m.1 (x0 + 1) (Int32.toNatClampNeg x3))))), .int (m.1 (m.2.2.1 x0 8) (Int32.toNatClampNeg (m.1 (x0 + 2) (Int32.toNatClampNeg x3)))), .int (m.1 (x0 + 2) (Int32.toNatClampNeg x3)), .ref (m.2.2.1 x0 8)] rfl (fun _ => rfl) rfl ?_
    refine dg_s (pc' := 52) [.int (d_J9_max_7cf53 (m.1 (m.2.2.1 x0 8) (Int32.toNatClampNeg (m.1 (x0 + 2) (Int32.toNatClampNeg x3)))) ((m.1 x1 (Int32.toNatClampNeg (m.1 (x0 + 1) (Int32.toNatClampNeg x3)))) + (m.1 (x2 + 8) (Int32.toNatClampNeg (m.1 (x0 + 1) (Int32.toNatClampNeg x3))))) m), .int (m.1 (x0 + 2) (Int32.toNatClampNeg x3)), .ref (m.2.2.1 x0 8)] rfl (fun _ => rfl) rfl ?_
    refine dg_m (pc' := 53) (dc_wi m (m.2.2.1 x0 8) (Int32.toNatClampNeg (m.1 (x0 + 2) (Int32.toNatClampNeg x3))) (d_J9_max_7cf53 (m.1 (m.2.2.1 x0 8) (Int32.toNatClampNeg (m.1 (x0 + 2) (Int32.toNatClampNeg x3)))) ((m.1 x1 (Int32.toNatClampNeg (m.1 (x0 + 1) (Int32.toNatClampNeg x3)))) + (m.1 (x2 + 8) (Int32.toNatClampNeg (m.1 (x0 + 1) (Int32.toNatClampNeg x3))))) m)) [] rfl (fun _ => rfl) rfl ?_
    exact dw_r (some (.inl (none, (dc_wi m (m.2.2.1 x0 8) (Int32.toNatClampNeg (m.1 (x0 + 2) (Int32.toNatClampNeg x3))) (d_J9_max_7cf53 (m.1 (m.2.2.1 x0 8) (Int32.toNatClampNeg (m.1 (x0 + 2) (Int32.toNatClampNeg x3)))) ((m.1 x1 (Int32.toNatClampNeg (m.1 (x0 + 1) (Int32.toNatClampNeg x3)))) + (m.1 (x2 + 8) (Int32.toNatClampNeg (m.1 (x0 + 1) (Int32.toNatClampNeg x3))))) m))))) rfl (fun _ => rfl) (kR _)
def H_X5_lengthen : dc_H := fun As m k => match As with
  | [.ref x0, .ref x1, .ref x2, .int x3] => dc_let (d_X5_lengthen x0 x1 x2 x3 m) (fun q => k (none) q)
  | _ => dc_kz
theorem H_X5_lengthen_ok {u : Nat} : dc_cok u 70 H_X5_lengthen := fun M' hG N As m k P hz hP => by
  obtain rfl : ab_M_X5_lengthen = M' := Option.some.inj hG
  unfold H_X5_lengthen at hP
  split at hP
  · rename_i x0 x1 x2 x3
    exact dc_pv.imp (k_X5_lengthen (Φ := fun (t : dc_M) r m' => P (dc_let t (fun q => k (none) q)) → P (k r m')) x0 x1 x2 x3 m (fun _ h => h) rfl rfl rfl rfl) (fun r m' h => h hP)
  · exact absurd hP hz
def C_X5_goOnWithoutToken : List (Nat × dc_H) := [(70, H_X5_lengthen)]
theorem CO_X5_goOnWithoutToken {u : Nat} : dc_CO u C_X5_goOnWithoutToken := dc_CO_cons H_X5_lengthen_ok (dc_CO_nil)
def S_X5_goOnWithoutToken : List (Nat × List Nat) := [(2, [0, 1, 2]), (32, [0, 1, 2, 3, 4])]
noncomputable def d_X5_goOnWithoutToken_l32b (x0 : Nat) (x1 : Nat) (x2 : Int32) (x3 : Int32) (x4 : Int32) (m : dc_M) : Option ((Int32 × dc_M) ⊕ ((Int32 × dc_M) ⊕ dc_M)) :=
  (if (Int32.toInt (m.1 x1 2)) ≤ (Int32.toInt x4) then some (Sum.inr (Sum.inl ((x2 + (1 : Int32)), m))) else (if (Int32.toInt (x3 >>> (x4 &&& 31))) = 0 then some (Sum.inr (Sum.inl ((x2 + (1 : Int32)), m))) else (if (Int32.toInt ((x3 >>> (x4 &&& 31)) &&& (1 : Int32))) = 0 then some (Sum.inl ((x4 + (1 : Int32)), m)) else (dc_let (d_X5_lengthen x0 (m.2.2.1 x0 8) x1 x4 m) (fun q1 => some (Sum.inl ((x4 + (1 : Int32)), q1)))))))
noncomputable def d_X5_goOnWithoutToken_l32s (x0 : Nat) (x1 : Nat) (x2 : Int32) (x3 : Int32) : (Int32 × dc_M) → Option ((Int32 × dc_M) ⊕ ((Int32 × dc_M) ⊕ dc_M)) := fun s => d_X5_goOnWithoutToken_l32b x0 x1 x2 x3 s.1 s.2
noncomputable def d_X5_goOnWithoutToken_l32 (x0 : Nat) (x1 : Nat) (x2 : Int32) (x3 : Int32) (x4 : Int32) (m : dc_M) : Option ((Int32 × dc_M) ⊕ dc_M) := dc_lp (d_X5_goOnWithoutToken_l32s x0 x1 x2 x3) (x4, m)
set_option maxHeartbeats 8000000 in
theorem k_X5_goOnWithoutToken_l32 {u : Nat} {Φ : (Option ((Int32 × dc_M) ⊕ dc_M)) → Option Value → dc_M → Prop} (x0 : Nat) (x1 : Nat) (x2 : Int32) (x3 : Int32) (kR : ∀  (m : dc_M), Φ (some (Sum.inr (m))) (none) m) : ∀ (N : Nat), (∀ (x2 : Int32) (m : dc_M) (lv : ab_L), ab_lk lv 0 = some (.ref x0) → ab_lk lv 1 = some (.ref x1) → ab_lk lv 2 = some (.int x2) →  dc_pv u N ab_M_X5_goOnWithoutToken 2 lv [] m (Φ (some (Sum.inl (x2, m))))) → ∀ (x4 : Int32) (m : dc_M) (lv : ab_L), ab_lk lv 0 = some (.ref x0) → ab_lk lv 1 = some (.ref x1) → ab_lk lv 2 = some (.int x2) → ab_lk lv 3 = some (.int x3) → ab_lk lv 4 = some (.int x4) → dc_pv u N ab_M_X5_goOnWithoutToken 32 lv [] m (Φ (d_X5_goOnWithoutToken_l32 x0 x1 x2 x3 x4 m)) := by
  intro N
  induction N with
  | zero => intros; exact dc_pv_zero
  | succ N ih =>
    intro k2 x4 m lv f0 f1 f2 f3 f4
    have k2 := fun a0 a1 a2 a3 a4 a5 => (k2 a0 a1 a2 a3 a4 a5).mono (Nat.le_succ N)
    have ih := ih k2
    refine dc_ok (C := C_X5_goOnWithoutToken) (S := S_X5_goOnWithoutToken) CO_X5_goOnWithoutToken 400 32 [(0, .ref x0), (1, .ref x1), (2, .int x2), (3, .int x3), (4, .int x4)] lv [] m (dc_sub_cons f0 (dc_sub_cons f1 (dc_sub_cons f2 (dc_sub_cons f3 (dc_sub_cons f4 (dc_sub_nil)))))) ?_
    unfold d_X5_goOnWithoutToken_l32
    rw [dc_lp_eq]
    show (fun t x => dc_lf u N ab_M_X5_goOnWithoutToken (Φ (Option.bind t (dc_bk (d_X5_goOnWithoutToken_l32s x0 x1 x2 x3)))) x) (d_X5_goOnWithoutToken_l32b x0 x1 x2 x3 x4 m) _
    dsimp only
    unfold d_X5_goOnWithoutToken_l32b
    refine dg_s (pc' := 34) [.int x4] rfl (fun _ => rfl) rfl ?_
    refine dg_s (pc' := 35) [.ref x1, .int x4] rfl (fun _ => rfl) rfl ?_
    refine dg_s (pc' := 38) [.int (m.1 x1 2), .int x4] rfl (fun _ => rfl) rfl ?_
    refine dw_if (fun t => Φ (Option.bind t (dc_bk (d_X5_goOnWithoutToken_l32s x0 x1 x2 x3)))) ((Int32.toInt (m.1 x1 2)) ≤ (Int32.toInt x4)) [] 74 41 rfl (fun _ => rfl) (fun c0 => ?_) (fun c0 => ?_)
    · refine dw_g rfl ?_
      refine dg_L (pc' := 77) [(2, .int (x2 + (1 : Int32))), (0, .ref x0), (1, .ref x1), (3, .int x3), (4, .int x4)] [] rfl (fun _ => rfl) rfl ?_
      refine dw_s (pc' := 2) [] rfl (fun _ => rfl) ?_
      exact dw_j rfl (fun lv1 hv => k2 (x2 + (1 : Int32)) m lv1 (hv.1 _ rfl) (hv.2.1 _ rfl) (hv.2.2.1 _ rfl))
    · refine dw_g rfl ?_
      refine dg_s (pc' := 42) [.int x3] rfl (fun _ => rfl) rfl ?_
      refine dg_s (pc' := 44) [.int x4, .int x3] rfl (fun _ => rfl) rfl ?_
      refine dg_s (pc' := 45) [.int (x3 >>> (x4 &&& 31))] rfl (fun _ => rfl) rfl ?_
      refine dw_if (fun t => Φ (Option.bind t (dc_bk (d_X5_goOnWithoutToken_l32s x0 x1 x2 x3)))) ((Int32.toInt (x3 >>> (x4 &&& 31))) = 0) [] 74 48 rfl (fun _ => rfl) (fun c1 => ?_) (fun c1 => ?_)
      · refine dw_g rfl ?_
        refine dg_L (pc' := 77) [(2, .int (x2 + (1 : Int32))), (0, .ref x0), (1, .ref x1), (3, .int x3), (4, .int x4)] [] rfl (fun _ => rfl) rfl ?_
        refine dw_s (pc' := 2) [] rfl (fun _ => rfl) ?_
        exact dw_j rfl (fun lv1 hv => k2 (x2 + (1 : Int32)) m lv1 (hv.1 _ rfl) (hv.2.1 _ rfl) (hv.2.2.1 _ rfl))
      · refine dw_g rfl ?_
        refine dg_s (pc' := 49) [.int x3] rfl (fun _ => rfl) rfl ?_
        refine dg_s (pc' := 51) [.int x4, .int x3] rfl (fun _ => rfl) rfl ?_
        refine dg_s (pc' := 52) [.int (x3 >>> (x4 &&& 31))] rfl (fun _ => rfl) rfl ?_
        refine dg_s (pc' := 53) [.int (1 : Int32), .int (x3 >>> (x4 &&& 31))] rfl (fun _ => rfl) rfl ?_
        refine dg_s (pc' := 54) [.int ((x3 >>> (x4 &&& 31)) &&& (1 : Int32))] rfl (fun _ => rfl) rfl ?_
        refine dw_if (fun t => Φ (Option.bind t (dc_bk (d_X5_goOnWithoutToken_l32s x0 x1 x2 x3)))) ((Int32.toInt ((x3 >>> (x4 &&& 31)) &&& (1 : Int32))) = 0) [] 68 57 rfl (fun _ => rfl) (fun c2 => ?_) (fun c2 => ?_)
        · refine dw_g rfl ?_
          refine dg_L (pc' := 71) [(4, .int (x4 + (1 : Int32))), (0, .ref x0), (1, .ref x1), (2, .int x2), (3, .int x3)] [] rfl (fun _ => rfl) rfl ?_
          refine dw_s (pc' := 32) [] rfl (fun _ => rfl) ?_
          exact dw_j rfl (fun lv1 hv => ih (x4 + (1 : Int32)) m lv1 (hv.1 _ rfl) (hv.2.1 _ rfl) (hv.2.2.1 _ rfl) (hv.2.2.2.1 _ rfl) (hv.2.2.2.2.1 _ rfl))
        · refine dw_g rfl ?_
          refine dg_s (pc' := 58) [.ref x0] rfl (fun _ => rfl) rfl ?_
          refine dg_s (pc' := 59) [.ref x0, .ref x0] rfl (fun _ => rfl) rfl ?_
          refine dg_s (pc' := 62) [.ref (m.2.2.1 x0 8), .ref x0] rfl (fun _ => rfl) rfl ?_
          refine dg_s (pc' := 63) [.ref x1, .ref (m.2.2.1 x0 8), .ref x0] rfl (fun _ => rfl) rfl ?_
          refine dg_s (pc' := 65) [.int x4, .ref x1, .ref (m.2.2.1 x0 8), .ref x0] rfl (fun _ => rfl) rfl ?_
          refine dw_l (fun t => Φ (Option.bind t (dc_bk (d_X5_goOnWithoutToken_l32s x0 x1 x2 x3)))) (pc' := 68) (fun q1 => []) (fun q1 => q1) rfl (fun _ => rfl) (fun q1 => ?_)
          refine dw_g rfl ?_
          refine dg_L (pc' := 71) [(4, .int (x4 + (1 : Int32))), (0, .ref x0), (1, .ref x1), (2, .int x2), (3, .int x3)] [] rfl (fun _ => rfl) rfl ?_
          refine dw_s (pc' := 32) [] rfl (fun _ => rfl) ?_
          exact dw_j rfl (fun lv1 hv => ih (x4 + (1 : Int32)) q1 lv1 (hv.1 _ rfl) (hv.2.1 _ rfl) (hv.2.2.1 _ rfl) (hv.2.2.2.1 _ rfl) (hv.2.2.2.2.1 _ rfl))
noncomputable def d_X5_goOnWithoutToken_l2b (x0 : Nat) (x1 : Nat) (x2 : Int32) (m : dc_M) : Option ((Int32 × dc_M) ⊕ dc_M) :=
  (if (Int32.toInt (m.1 x0 7)) ≤ (Int32.toInt x2) then some (Sum.inr (m)) else (d_X5_goOnWithoutToken_l32 x0 x1 x2 ((m.1 (x1 + 7) (Int32.toNatClampNeg (m.1 (x0 + 3) (Int32.toNatClampNeg x2)))) &&& ((m.1 x1 13) ^^^ (-1 : Int32))) (0 : Int32) m))
noncomputable def d_X5_goOnWithoutToken_l2s (x0 : Nat) (x1 : Nat) : (Int32 × dc_M) → Option ((Int32 × dc_M) ⊕ dc_M) := fun s => d_X5_goOnWithoutToken_l2b x0 x1 s.1 s.2
noncomputable def d_X5_goOnWithoutToken_l2 (x0 : Nat) (x1 : Nat) (x2 : Int32) (m : dc_M) : Option dc_M := dc_lp (d_X5_goOnWithoutToken_l2s x0 x1) (x2, m)
set_option maxHeartbeats 8000000 in
theorem k_X5_goOnWithoutToken_l2 {u : Nat} {Φ : (Option dc_M) → Option Value → dc_M → Prop} (x0 : Nat) (x1 : Nat) (kR : ∀  (m : dc_M), Φ (some (m)) (none) m) : ∀ (N : Nat), ∀ (x2 : Int32) (m : dc_M) (lv : ab_L), ab_lk lv 0 = some (.ref x0) → ab_lk lv 1 = some (.ref x1) → ab_lk lv 2 = some (.int x2) → dc_pv u N ab_M_X5_goOnWithoutToken 2 lv [] m (Φ (d_X5_goOnWithoutToken_l2 x0 x1 x2 m)) := by
  intro N
  induction N with
  | zero => intros; exact dc_pv_zero
  | succ N ih =>
    intro x2 m lv f0 f1 f2
    refine dc_ok (C := C_X5_goOnWithoutToken) (S := S_X5_goOnWithoutToken) CO_X5_goOnWithoutToken 400 2 [(0, .ref x0), (1, .ref x1), (2, .int x2)] lv [] m (dc_sub_cons f0 (dc_sub_cons f1 (dc_sub_cons f2 (dc_sub_nil)))) ?_
    unfold d_X5_goOnWithoutToken_l2
    rw [dc_lp_eq]
    show (fun t x => dc_lf u N ab_M_X5_goOnWithoutToken (Φ (Option.bind t (dc_bk (d_X5_goOnWithoutToken_l2s x0 x1)))) x) (d_X5_goOnWithoutToken_l2b x0 x1 x2 m) _
    dsimp only
    unfold d_X5_goOnWithoutToken_l2b
    refine dg_s (pc' := 3) [.int x2] rfl (fun _ => rfl) rfl ?_
    refine dg_s (pc' := 4) [.ref x0, .int x2] rfl (fun _ => rfl) rfl ?_
    refine dg_s (pc' := 7) [.int (m.1 x0 7), .int x2] rfl (fun _ => rfl) rfl ?_
    refine dw_if (fun t => Φ (Option.bind t (dc_bk (d_X5_goOnWithoutToken_l2s x0 x1)))) ((Int32.toInt (m.1 x0 7)) ≤ (Int32.toInt x2)) [] 80 10 rfl (fun _ => rfl) (fun c0 => ?_) (fun c0 => ?_)
    · refine dw_g rfl ?_
      exact dw_r (some (.inl (none, m))) rfl (fun _ => rfl) (kR _)
    · refine dw_g rfl ?_
      refine dg_s (pc' := 11) [.ref x1] rfl (fun _ => rfl) rfl ?_
      refine dg_s (pc' := 14) [.ref (x1 + 7)] rfl (fun _ => rfl) rfl ?_
      refine dg_s (pc' := 15) [.ref x0, .ref (x1 + 7)] rfl (fun _ => rfl) rfl ?_
      refine dg_s (pc' := 18) [.ref (x0 + 3), .ref (x1 + 7)] rfl (fun _ => rfl) rfl ?_
      refine dg_s (pc' := 19) [.int x2, .ref (x0 + 3), .ref (x1 + 7)] rfl (fun _ => rfl) rfl ?_
      refine dg_s (pc' := 20) [.int (m.1 (x0 + 3) (Int32.toNatClampNeg x2)), .ref (x1 + 7)] rfl (fun _ => rfl) rfl ?_
      refine dg_s (pc' := 21) [.int (m.1 (x1 + 7) (Int32.toNatClampNeg (m.1 (x0 + 3) (Int32.toNatClampNeg x2))))] rfl (fun _ => rfl) rfl ?_
      refine dg_s (pc' := 22) [.ref x1, .int (m.1 (x1 + 7) (Int32.toNatClampNeg (m.1 (x0 + 3) (Int32.toNatClampNeg x2))))] rfl (fun _ => rfl) rfl ?_
      refine dg_s (pc' := 25) [.int (m.1 x1 13), .int (m.1 (x1 + 7) (Int32.toNatClampNeg (m.1 (x0 + 3) (Int32.toNatClampNeg x2))))] rfl (fun _ => rfl) rfl ?_
      refine dg_s (pc' := 26) [.int (-1 : Int32), .int (m.1 x1 13), .int (m.1 (x1 + 7) (Int32.toNatClampNeg (m.1 (x0 + 3) (Int32.toNatClampNeg x2))))] rfl (fun _ => rfl) rfl ?_
      refine dg_s (pc' := 27) [.int ((m.1 x1 13) ^^^ (-1 : Int32)), .int (m.1 (x1 + 7) (Int32.toNatClampNeg (m.1 (x0 + 3) (Int32.toNatClampNeg x2))))] rfl (fun _ => rfl) rfl ?_
      refine dg_s (pc' := 28) [.int ((m.1 (x1 + 7) (Int32.toNatClampNeg (m.1 (x0 + 3) (Int32.toNatClampNeg x2)))) &&& ((m.1 x1 13) ^^^ (-1 : Int32)))] rfl (fun _ => rfl) rfl ?_
      refine dg_L (pc' := 29) [(3, .int ((m.1 (x1 + 7) (Int32.toNatClampNeg (m.1 (x0 + 3) (Int32.toNatClampNeg x2)))) &&& ((m.1 x1 13) ^^^ (-1 : Int32)))), (0, .ref x0), (1, .ref x1), (2, .int x2)] [] rfl (fun _ => rfl) rfl ?_
      refine dg_s (pc' := 30) [.int (0 : Int32)] rfl (fun _ => rfl) rfl ?_
      refine dw_L (pc' := 32) [(4, .int (0 : Int32)), (3, .int ((m.1 (x1 + 7) (Int32.toNatClampNeg (m.1 (x0 + 3) (Int32.toNatClampNeg x2)))) &&& ((m.1 x1 13) ^^^ (-1 : Int32)))), (0, .ref x0), (1, .ref x1), (2, .int x2)] [] rfl (fun _ => rfl) ?_
      exact dw_j rfl (fun lv1 hv => k_X5_goOnWithoutToken_l32 (Φ := (fun t => Φ (Option.bind t (dc_bk (d_X5_goOnWithoutToken_l2s x0 x1))))) x0 x1 x2 ((m.1 (x1 + 7) (Int32.toNatClampNeg (m.1 (x0 + 3) (Int32.toNatClampNeg x2)))) &&& ((m.1 x1 13) ^^^ (-1 : Int32))) (fun _b => kR _b) N ih (0 : Int32) m lv1 (hv.1 _ rfl) (hv.2.1 _ rfl) (hv.2.2.1 _ rfl) (hv.2.2.2.1 _ rfl) (hv.2.2.2.2.1 _ rfl))
noncomputable def d_X5_goOnWithoutToken (x0 : Nat) (x1 : Nat) (m : dc_M) : Option dc_M :=
  (d_X5_goOnWithoutToken_l2 x0 x1 (0 : Int32) m)
set_option maxHeartbeats 8000000 in
theorem k_X5_goOnWithoutToken {u : Nat} {N : Nat} {Φ : (Option dc_M) → Option Value → dc_M → Prop} (x0 : Nat) (x1 : Nat) (m : dc_M) (kR : ∀  (m : dc_M), Φ (some (m)) (none) m)  {lv : ab_L} (f0 : ab_lk lv 0 = some (.ref x0)) (f1 : ab_lk lv 1 = some (.ref x1)) : dc_pv u N ab_M_X5_goOnWithoutToken 0 lv [] m (Φ (d_X5_goOnWithoutToken x0 x1 m)) := by
  refine dc_pv.mono (dc_ok (C := C_X5_goOnWithoutToken) (S := S_X5_goOnWithoutToken) CO_X5_goOnWithoutToken 400 0 [(0, .ref x0), (1, .ref x1)] lv [] m (dc_sub_cons f0 (dc_sub_cons f1 (dc_sub_nil))) ?_) (Nat.le_succ N)
  unfold d_X5_goOnWithoutToken
  refine dg_s (pc' := 1) [.int (0 : Int32)] rfl (fun _ => rfl) rfl ?_
  refine dw_L (pc' := 2) [(2, .int (0 : Int32)), (0, .ref x0), (1, .ref x1)] [] rfl (fun _ => rfl) ?_
  exact dw_j rfl (fun lv1 hv => k_X5_goOnWithoutToken_l2 (Φ := (fun t => Φ t)) x0 x1 (fun _b => kR _b) N  (0 : Int32) m lv1 (hv.1 _ rfl) (hv.2.1 _ rfl) (hv.2.2.1 _ rfl))
noncomputable def H_X5_goOnWithoutToken : dc_H := fun As m k => match As with
  | [.ref x0, .ref x1] => (d_X5_goOnWithoutToken x0 x1 m).bind (fun q => k (none) q)
  | _ => dc_kz
theorem H_X5_goOnWithoutToken_ok {u : Nat} : dc_cok u 69 H_X5_goOnWithoutToken := fun M' hG N As m k P hz hP => by
  obtain rfl : ab_M_X5_goOnWithoutToken = M' := Option.some.inj hG
  unfold H_X5_goOnWithoutToken at hP
  split at hP
  · rename_i x0 x1
    exact dc_pv.imp (k_X5_goOnWithoutToken (Φ := fun (t : Option dc_M) r m' => P (t.bind (fun q => k (none) q)) → P (k r m')) x0 x1 m (fun _ h => h) rfl rfl) (fun r m' h => h hP)
  · exact absurd hP hz
def C_X5_turnWays : List (Nat × dc_H) := []
theorem CO_X5_turnWays {u : Nat} : dc_CO u C_X5_turnWays := dc_CO_nil
def S_X5_turnWays : List (Nat × List Nat) := []
def d_X5_turnWays (x0 : Nat) (m : dc_M) : dc_M :=
  (dc_wr (dc_wr m x0 9 (m.2.2.1 x0 8)) x0 8 (m.2.2.1 x0 9))
set_option maxHeartbeats 8000000 in
theorem k_X5_turnWays {u : Nat} {N : Nat} {Φ : dc_M → Option Value → dc_M → Prop} (x0 : Nat) (m : dc_M) (kR : ∀  (m : dc_M), Φ (m) (none) m)  {lv : ab_L} (f0 : ab_lk lv 0 = some (.ref x0)) : dc_pv u N ab_M_X5_turnWays 0 lv [] m (Φ (d_X5_turnWays x0 m)) := by
  refine dc_pv.mono (dc_ok (C := C_X5_turnWays) (S := S_X5_turnWays) CO_X5_turnWays 400 0 [(0, .ref x0)] lv [] m (dc_sub_cons f0 (dc_sub_nil)) ?_) (Nat.le_succ N)
  unfold d_X5_turnWays
  refine dg_s (pc' := 1) [.ref x0] rfl (fun _ => rfl) rfl ?_
  refine dg_s (pc' := 4) [.ref (m.2.2.1 x0 9)] rfl (fun _ => rfl) rfl ?_
  refine dg_L (pc' := 5) [(1, .ref (m.2.2.1 x0 9)), (0, .ref x0)] [] rfl (fun _ => rfl) rfl ?_
  refine dg_s (pc' := 6) [.ref x0] rfl (fun _ => rfl) rfl ?_
  refine dg_s (pc' := 7) [.ref x0, .ref x0] rfl (fun _ => rfl) rfl ?_
  refine dg_s (pc' := 10) [.ref (m.2.2.1 x0 8), .ref x0] rfl (fun _ => rfl) rfl ?_
  refine dg_m (pc' := 13) (dc_wr m x0 9 (m.2.2.1 x0 8)) [] rfl (fun _ => rfl) rfl ?_
  refine dg_s (pc' := 14) [.ref x0] rfl (fun _ => rfl) rfl ?_
  refine dg_s (pc' := 15) [.ref (m.2.2.1 x0 9), .ref x0] rfl (fun _ => rfl) rfl ?_
  refine dg_m (pc' := 18) (dc_wr (dc_wr m x0 9 (m.2.2.1 x0 8)) x0 8 (m.2.2.1 x0 9)) [] rfl (fun _ => rfl) rfl ?_
  exact dw_r (some (.inl (none, (dc_wr (dc_wr m x0 9 (m.2.2.1 x0 8)) x0 8 (m.2.2.1 x0 9))))) rfl (fun _ => rfl) (kR _)
def H_X5_turnWays : dc_H := fun As m k => match As with
  | [.ref x0] => dc_let (d_X5_turnWays x0 m) (fun q => k (none) q)
  | _ => dc_kz
theorem H_X5_turnWays_ok {u : Nat} : dc_cok u 68 H_X5_turnWays := fun M' hG N As m k P hz hP => by
  obtain rfl : ab_M_X5_turnWays = M' := Option.some.inj hG
  unfold H_X5_turnWays at hP
  split at hP
  · rename_i x0
    exact dc_pv.imp (k_X5_turnWays (Φ := fun (t : dc_M) r m' => P (dc_let t (fun q => k (none) q)) → P (k r m')) x0 m (fun _ h => h) rfl) (fun r m' h => h hP)
  · exact absurd hP hz
noncomputable def C_X5_findClosedWays : List (Nat × dc_H) := [(238, H_J7_fill_53178), (69, H_X5_goOnWithoutToken), (70, H_X5_lengthen), (68, H_X5_turnWays)]
theorem CO_X5_findClosedWays {u : Nat} : dc_CO u C_X5_findClosedWays := dc_CO_cons H_J7_fill_53178_ok (dc_CO_cons H_X5_goOnWithoutToken_ok (dc_CO_cons H_X5_lengthen_ok (dc_CO_cons H_X5_turnWays_ok (dc_CO_nil))))
def S_X5_findClosedWays : List (Nat × List Nat) := [(22, [0, 1, 2, 3]), (45, [0, 1, 2, 3, 4]), (83, [0, 1, 2, 3])]
noncomputable def d_X5_findClosedWays_b83 (x0 : Nat) (x1 : Nat) (x2 : Int32) (x3 : Int32) (m : dc_M) : Option ((Int32 × dc_M) ⊕ dc_M) :=
  ((d_X5_goOnWithoutToken x0 x1 m).bind (fun q1 => some (Sum.inl ((x3 + (1 : Int32)), (dc_wi q1 (x0 + 6) (Int32.toNatClampNeg ((x2 * (17 : Int32)) + x3)) (q1.1 (q1.2.2.1 x0 8) (Int32.toNatClampNeg x2)))))))
set_option maxHeartbeats 8000000 in
theorem k_X5_findClosedWays_b83 {u : Nat} {N : Nat} {Φ : (Option ((Int32 × dc_M) ⊕ dc_M)) → Option Value → dc_M → Prop} (x0 : Nat) (x1 : Nat) (x2 : Int32) (x3 : Int32) (m : dc_M) (kR : ∀  (m : dc_M), Φ (some (Sum.inr (m))) (none) m) (k22 : ∀ (x3 : Int32) (m : dc_M) (lv : ab_L), ab_lk lv 0 = some (.ref x0) → ab_lk lv 1 = some (.ref x1) → ab_lk lv 2 = some (.int x2) → ab_lk lv 3 = some (.int x3) →  dc_pv u N ab_M_X5_findClosedWays 22 lv [] m (Φ (some (Sum.inl (x3, m))))) {lv : ab_L} (f0 : ab_lk lv 0 = some (.ref x0)) (f1 : ab_lk lv 1 = some (.ref x1)) (f2 : ab_lk lv 2 = some (.int x2)) (f3 : ab_lk lv 3 = some (.int x3)) : dc_pv u N ab_M_X5_findClosedWays 83 lv [] m (Φ (d_X5_findClosedWays_b83 x0 x1 x2 x3 m)) := by
  refine dc_pv.mono (dc_ok (C := C_X5_findClosedWays) (S := S_X5_findClosedWays) CO_X5_findClosedWays 400 83 [(0, .ref x0), (1, .ref x1), (2, .int x2), (3, .int x3)] lv [] m (dc_sub_cons f0 (dc_sub_cons f1 (dc_sub_cons f2 (dc_sub_cons f3 (dc_sub_nil))))) ?_) (Nat.le_succ N)
  unfold d_X5_findClosedWays_b83
  refine dg_s (pc' := 84) [.ref x0] rfl (fun _ => rfl) rfl ?_
  refine dg_s (pc' := 85) [.ref x1, .ref x0] rfl (fun _ => rfl) rfl ?_
  refine dw_b (fun t => Φ t) (pc' := 88) (fun q1 => []) (fun q1 => q1) rfl (fun _ => rfl) (fun q1 => ?_)
  refine dw_g rfl ?_
  refine dg_s (pc' := 89) [.ref x0] rfl (fun _ => rfl) rfl ?_
  refine dg_s (pc' := 92) [.ref (x0 + 6)] rfl (fun _ => rfl) rfl ?_
  refine dg_s (pc' := 93) [.int x2, .ref (x0 + 6)] rfl (fun _ => rfl) rfl ?_
  refine dg_s (pc' := 95) [.int (17 : Int32), .int x2, .ref (x0 + 6)] rfl (fun _ => rfl) rfl ?_
  refine dg_s (pc' := 96) [.int (x2 * (17 : Int32)), .ref (x0 + 6)] rfl (fun _ => rfl) rfl ?_
  refine dg_s (pc' := 97) [.int x3, .int (x2 * (17 : Int32)), .ref (x0 + 6)] rfl (fun _ => rfl) rfl ?_
  refine dg_s (pc' := 98) [.int ((x2 * (17 : Int32)) + x3), .ref (x0 + 6)] rfl (fun _ => rfl) rfl ?_
  refine dg_s (pc' := 99) [.ref x0, .int ((x2 * (17 : Int32)) + x3), .ref (x0 + 6)] rfl (fun _ => rfl) rfl ?_
  refine dg_s (pc' := 102) [.ref (q1.2.2.1 x0 8), .int ((x2 * (17 : Int32)) + x3), .ref (x0 + 6)] rfl (fun _ => rfl) rfl ?_
  refine dg_s (pc' := 103) [.int x2, .ref (q1.2.2.1 x0 8), .int ((x2 * (17 : Int32)) + x3), .ref (x0 + 6)] rfl (fun _ => rfl) rfl ?_
  refine dg_s (pc' := 104) [.int (q1.1 (q1.2.2.1 x0 8) (Int32.toNatClampNeg x2)), .int ((x2 * (17 : Int32)) + x3), .ref (x0 + 6)] rfl (fun _ => rfl) rfl ?_
  refine dg_m (pc' := 105) (dc_wi q1 (x0 + 6) (Int32.toNatClampNeg ((x2 * (17 : Int32)) + x3)) (q1.1 (q1.2.2.1 x0 8) (Int32.toNatClampNeg x2))) [] rfl (fun _ => rfl) rfl ?_
  refine dg_L (pc' := 108) [(3, .int (x3 + (1 : Int32))), (0, .ref x0), (1, .ref x1), (2, .int x2)] [] rfl (fun _ => rfl) rfl ?_
  refine dw_s (pc' := 22) [] rfl (fun _ => rfl) ?_
  exact dw_j rfl (fun lv1 hv => k22 (x3 + (1 : Int32)) (dc_wi q1 (x0 + 6) (Int32.toNatClampNeg ((x2 * (17 : Int32)) + x3)) (q1.1 (q1.2.2.1 x0 8) (Int32.toNatClampNeg x2))) lv1 (hv.1 _ rfl) (hv.2.1 _ rfl) (hv.2.2.1 _ rfl) (hv.2.2.2.1 _ rfl))
noncomputable def d_X5_findClosedWays_l45b (x0 : Nat) (x1 : Nat) (x2 : Int32) (x3 : Int32) (x4 : Int32) (m : dc_M) : Option ((Int32 × dc_M) ⊕ ((Int32 × dc_M) ⊕ dc_M)) :=
  (if (Int32.toInt (m.1 x1 2)) ≤ (Int32.toInt x4) then ((d_X5_findClosedWays_b83 x0 x1 x2 x3 m).map (fun z => Sum.inr (z))) else (if (Int32.toInt (((m.1 x1 13) >>> (x4 &&& 31)) &&& (1 : Int32))) = 0 then some (Sum.inl ((x4 + (1 : Int32)), m)) else (dc_let (d_X5_lengthen x0 (m.2.2.1 x0 9) x1 x4 m) (fun q1 => some (Sum.inl ((x4 + (1 : Int32)), q1))))))
noncomputable def d_X5_findClosedWays_l45s (x0 : Nat) (x1 : Nat) (x2 : Int32) (x3 : Int32) : (Int32 × dc_M) → Option ((Int32 × dc_M) ⊕ ((Int32 × dc_M) ⊕ dc_M)) := fun s => d_X5_findClosedWays_l45b x0 x1 x2 x3 s.1 s.2
noncomputable def d_X5_findClosedWays_l45 (x0 : Nat) (x1 : Nat) (x2 : Int32) (x3 : Int32) (x4 : Int32) (m : dc_M) : Option ((Int32 × dc_M) ⊕ dc_M) := dc_lp (d_X5_findClosedWays_l45s x0 x1 x2 x3) (x4, m)
set_option maxHeartbeats 8000000 in
theorem k_X5_findClosedWays_l45 {u : Nat} {Φ : (Option ((Int32 × dc_M) ⊕ dc_M)) → Option Value → dc_M → Prop} (x0 : Nat) (x1 : Nat) (x2 : Int32) (x3 : Int32) (kR : ∀  (m : dc_M), Φ (some (Sum.inr (m))) (none) m) : ∀ (N : Nat), (∀ (x3 : Int32) (m : dc_M) (lv : ab_L), ab_lk lv 0 = some (.ref x0) → ab_lk lv 1 = some (.ref x1) → ab_lk lv 2 = some (.int x2) → ab_lk lv 3 = some (.int x3) →  dc_pv u N ab_M_X5_findClosedWays 22 lv [] m (Φ (some (Sum.inl (x3, m))))) → ∀ (x4 : Int32) (m : dc_M) (lv : ab_L), ab_lk lv 0 = some (.ref x0) → ab_lk lv 1 = some (.ref x1) → ab_lk lv 2 = some (.int x2) → ab_lk lv 3 = some (.int x3) → ab_lk lv 4 = some (.int x4) → dc_pv u N ab_M_X5_findClosedWays 45 lv [] m (Φ (d_X5_findClosedWays_l45 x0 x1 x2 x3 x4 m)) := by
  intro N
  induction N with
  | zero => intros; exact dc_pv_zero
  | succ N ih =>
    intro k22 x4 m lv f0 f1 f2 f3 f4
    have k22 := fun a0 a1 a2 a3 a4 a5 a6 => (k22 a0 a1 a2 a3 a4 a5 a6).mono (Nat.le_succ N)
    have ih := ih k22
    refine dc_ok (C := C_X5_findClosedWays) (S := S_X5_findClosedWays) CO_X5_findClosedWays 400 45 [(0, .ref x0), (1, .ref x1), (2, .int x2), (3, .int x3), (4, .int x4)] lv [] m (dc_sub_cons f0 (dc_sub_cons f1 (dc_sub_cons f2 (dc_sub_cons f3 (dc_sub_cons f4 (dc_sub_nil)))))) ?_
    unfold d_X5_findClosedWays_l45
    rw [dc_lp_eq]
    show (fun t x => dc_lf u N ab_M_X5_findClosedWays (Φ (Option.bind t (dc_bk (d_X5_findClosedWays_l45s x0 x1 x2 x3)))) x) (d_X5_findClosedWays_l45b x0 x1 x2 x3 x4 m) _
    dsimp only
    unfold d_X5_findClosedWays_l45b
    refine dg_s (pc' := 47) [.int x4] rfl (fun _ => rfl) rfl ?_
    refine dg_s (pc' := 48) [.ref x1, .int x4] rfl (fun _ => rfl) rfl ?_
    refine dg_s (pc' := 51) [.int (m.1 x1 2), .int x4] rfl (fun _ => rfl) rfl ?_
    refine dw_if (fun t => Φ (Option.bind t (dc_bk (d_X5_findClosedWays_l45s x0 x1 x2 x3)))) ((Int32.toInt (m.1 x1 2)) ≤ (Int32.toInt x4)) [] 83 54 rfl (fun _ => rfl) (fun c0 => ?_) (fun c0 => ?_)
    · exact dw_j rfl (fun lv1 hv => k_X5_findClosedWays_b83 (Φ := (fun t => Φ (Option.bind (t.map (fun z => Sum.inr (z))) (dc_bk (d_X5_findClosedWays_l45s x0 x1 x2 x3))))) x0 x1 x2 x3 m (fun _b => kR _b) k22 (hv.1 _ rfl) (hv.2.1 _ rfl) (hv.2.2.1 _ rfl) (hv.2.2.2.1 _ rfl))
    · refine dw_g rfl ?_
      refine dg_s (pc' := 55) [.ref x1] rfl (fun _ => rfl) rfl ?_
      refine dg_s (pc' := 58) [.int (m.1 x1 13)] rfl (fun _ => rfl) rfl ?_
      refine dg_s (pc' := 60) [.int x4, .int (m.1 x1 13)] rfl (fun _ => rfl) rfl ?_
      refine dg_s (pc' := 61) [.int ((m.1 x1 13) >>> (x4 &&& 31))] rfl (fun _ => rfl) rfl ?_
      refine dg_s (pc' := 62) [.int (1 : Int32), .int ((m.1 x1 13) >>> (x4 &&& 31))] rfl (fun _ => rfl) rfl ?_
      refine dg_s (pc' := 63) [.int (((m.1 x1 13) >>> (x4 &&& 31)) &&& (1 : Int32))] rfl (fun _ => rfl) rfl ?_
      refine dw_if (fun t => Φ (Option.bind t (dc_bk (d_X5_findClosedWays_l45s x0 x1 x2 x3)))) ((Int32.toInt (((m.1 x1 13) >>> (x4 &&& 31)) &&& (1 : Int32))) = 0) [] 77 66 rfl (fun _ => rfl) (fun c1 => ?_) (fun c1 => ?_)
      · refine dw_g rfl ?_
        refine dg_L (pc' := 80) [(4, .int (x4 + (1 : Int32))), (0, .ref x0), (1, .ref x1), (2, .int x2), (3, .int x3)] [] rfl (fun _ => rfl) rfl ?_
        refine dw_s (pc' := 45) [] rfl (fun _ => rfl) ?_
        exact dw_j rfl (fun lv1 hv => ih (x4 + (1 : Int32)) m lv1 (hv.1 _ rfl) (hv.2.1 _ rfl) (hv.2.2.1 _ rfl) (hv.2.2.2.1 _ rfl) (hv.2.2.2.2.1 _ rfl))
      · refine dw_g rfl ?_
        refine dg_s (pc' := 67) [.ref x0] rfl (fun _ => rfl) rfl ?_
        refine dg_s (pc' := 68) [.ref x0, .ref x0] rfl (fun _ => rfl) rfl ?_
        refine dg_s (pc' := 71) [.ref (m.2.2.1 x0 9), .ref x0] rfl (fun _ => rfl) rfl ?_
        refine dg_s (pc' := 72) [.ref x1, .ref (m.2.2.1 x0 9), .ref x0] rfl (fun _ => rfl) rfl ?_
        refine dg_s (pc' := 74) [.int x4, .ref x1, .ref (m.2.2.1 x0 9), .ref x0] rfl (fun _ => rfl) rfl ?_
        refine dw_l (fun t => Φ (Option.bind t (dc_bk (d_X5_findClosedWays_l45s x0 x1 x2 x3)))) (pc' := 77) (fun q1 => []) (fun q1 => q1) rfl (fun _ => rfl) (fun q1 => ?_)
        refine dw_g rfl ?_
        refine dg_L (pc' := 80) [(4, .int (x4 + (1 : Int32))), (0, .ref x0), (1, .ref x1), (2, .int x2), (3, .int x3)] [] rfl (fun _ => rfl) rfl ?_
        refine dw_s (pc' := 45) [] rfl (fun _ => rfl) ?_
        exact dw_j rfl (fun lv1 hv => ih (x4 + (1 : Int32)) q1 lv1 (hv.1 _ rfl) (hv.2.1 _ rfl) (hv.2.2.1 _ rfl) (hv.2.2.2.1 _ rfl) (hv.2.2.2.2.1 _ rfl))
noncomputable def d_X5_findClosedWays_l22b (x0 : Nat) (x1 : Nat) (x2 : Int32) (x3 : Int32) (m : dc_M) : Option ((Int32 × dc_M) ⊕ dc_M) :=
  (if (Int32.toInt (m.1 x1 1)) < (Int32.toInt x3) then some (Sum.inr (m)) else (dc_let (d_X5_turnWays x0 m) (fun q1 => ((d_J7_fill_53178 (q1.2.2.1 x0 8) (-1 : Int32) q1).bind (fun q2 => (d_X5_findClosedWays_l45 x0 x1 x2 x3 (0 : Int32) q2))))))
noncomputable def d_X5_findClosedWays_l22s (x0 : Nat) (x1 : Nat) (x2 : Int32) : (Int32 × dc_M) → Option ((Int32 × dc_M) ⊕ dc_M) := fun s => d_X5_findClosedWays_l22b x0 x1 x2 s.1 s.2
noncomputable def d_X5_findClosedWays_l22 (x0 : Nat) (x1 : Nat) (x2 : Int32) (x3 : Int32) (m : dc_M) : Option dc_M := dc_lp (d_X5_findClosedWays_l22s x0 x1 x2) (x3, m)
set_option maxHeartbeats 8000000 in
theorem k_X5_findClosedWays_l22 {u : Nat} {Φ : (Option dc_M) → Option Value → dc_M → Prop} (x0 : Nat) (x1 : Nat) (x2 : Int32) (kR : ∀  (m : dc_M), Φ (some (m)) (none) m) : ∀ (N : Nat), ∀ (x3 : Int32) (m : dc_M) (lv : ab_L), ab_lk lv 0 = some (.ref x0) → ab_lk lv 1 = some (.ref x1) → ab_lk lv 2 = some (.int x2) → ab_lk lv 3 = some (.int x3) → dc_pv u N ab_M_X5_findClosedWays 22 lv [] m (Φ (d_X5_findClosedWays_l22 x0 x1 x2 x3 m)) := by
  intro N
  induction N with
  | zero => intros; exact dc_pv_zero
  | succ N ih =>
    intro x3 m lv f0 f1 f2 f3
    refine dc_ok (C := C_X5_findClosedWays) (S := S_X5_findClosedWays) CO_X5_findClosedWays 400 22 [(0, .ref x0), (1, .ref x1), (2, .int x2), (3, .int x3)] lv [] m (dc_sub_cons f0 (dc_sub_cons f1 (dc_sub_cons f2 (dc_sub_cons f3 (dc_sub_nil))))) ?_
    unfold d_X5_findClosedWays_l22
    rw [dc_lp_eq]
    show (fun t x => dc_lf u N ab_M_X5_findClosedWays (Φ (Option.bind t (dc_bk (d_X5_findClosedWays_l22s x0 x1 x2)))) x) (d_X5_findClosedWays_l22b x0 x1 x2 x3 m) _
    dsimp only
    unfold d_X5_findClosedWays_l22b
    refine dg_s (pc' := 23) [.int x3] rfl (fun _ => rfl) rfl ?_
    refine dg_s (pc' := 24) [.ref x1, .int x3] rfl (fun _ => rfl) rfl ?_
    refine dg_s (pc' := 27) [.int (m.1 x1 1), .int x3] rfl (fun _ => rfl) rfl ?_
    refine dw_if (fun t => Φ (Option.bind t (dc_bk (d_X5_findClosedWays_l22s x0 x1 x2)))) ((Int32.toInt (m.1 x1 1)) < (Int32.toInt x3)) [] 111 30 rfl (fun _ => rfl) (fun c0 => ?_) (fun c0 => ?_)
    · refine dw_g rfl ?_
      exact dw_r (some (.inl (none, m))) rfl (fun _ => rfl) (kR _)
    · refine dw_g rfl ?_
      refine dg_s (pc' := 31) [.ref x0] rfl (fun _ => rfl) rfl ?_
      refine dw_l (fun t => Φ (Option.bind t (dc_bk (d_X5_findClosedWays_l22s x0 x1 x2)))) (pc' := 34) (fun q1 => []) (fun q1 => q1) rfl (fun _ => rfl) (fun q1 => ?_)
      refine dw_g rfl ?_
      refine dg_s (pc' := 35) [.ref x0] rfl (fun _ => rfl) rfl ?_
      refine dg_s (pc' := 38) [.ref (q1.2.2.1 x0 8)] rfl (fun _ => rfl) rfl ?_
      refine dg_s (pc' := 39) [.int (-1 : Int32), .ref (q1.2.2.1 x0 8)] rfl (fun _ => rfl) rfl ?_
      refine dw_b (fun t => Φ (Option.bind t (dc_bk (d_X5_findClosedWays_l22s x0 x1 x2)))) (pc' := 42) (fun q2 => []) (fun q2 => q2) rfl (fun _ => rfl) (fun q2 => ?_)
      refine dw_g rfl ?_
      refine dg_s (pc' := 43) [.int (0 : Int32)] rfl (fun _ => rfl) rfl ?_
      refine dw_L (pc' := 45) [(4, .int (0 : Int32)), (0, .ref x0), (1, .ref x1), (2, .int x2), (3, .int x3)] [] rfl (fun _ => rfl) ?_
      exact dw_j rfl (fun lv1 hv => k_X5_findClosedWays_l45 (Φ := (fun t => Φ (Option.bind t (dc_bk (d_X5_findClosedWays_l22s x0 x1 x2))))) x0 x1 x2 x3 (fun _b => kR _b) N ih (0 : Int32) q2 lv1 (hv.1 _ rfl) (hv.2.1 _ rfl) (hv.2.2.1 _ rfl) (hv.2.2.2.1 _ rfl) (hv.2.2.2.2.1 _ rfl))
noncomputable def d_X5_findClosedWays (x0 : Nat) (x1 : Nat) (x2 : Int32) (m : dc_M) : Option dc_M :=
  ((d_J7_fill_53178 (m.2.2.1 x0 8) (-1 : Int32) m).bind (fun q1 => ((d_X5_goOnWithoutToken x0 x1 (dc_wi q1 (q1.2.2.1 x0 8) (Int32.toNatClampNeg x2) (0 : Int32))).bind (fun q2 => (d_X5_findClosedWays_l22 x0 x1 x2 (1 : Int32) q2)))))
set_option maxHeartbeats 8000000 in
theorem k_X5_findClosedWays {u : Nat} {N : Nat} {Φ : (Option dc_M) → Option Value → dc_M → Prop} (x0 : Nat) (x1 : Nat) (x2 : Int32) (m : dc_M) (kR : ∀  (m : dc_M), Φ (some (m)) (none) m)  {lv : ab_L} (f0 : ab_lk lv 0 = some (.ref x0)) (f1 : ab_lk lv 1 = some (.ref x1)) (f2 : ab_lk lv 2 = some (.int x2)) : dc_pv u N ab_M_X5_findClosedWays 0 lv [] m (Φ (d_X5_findClosedWays x0 x1 x2 m)) := by
  refine dc_pv.mono (dc_ok (C := C_X5_findClosedWays) (S := S_X5_findClosedWays) CO_X5_findClosedWays 400 0 [(0, .ref x0), (1, .ref x1), (2, .int x2)] lv [] m (dc_sub_cons f0 (dc_sub_cons f1 (dc_sub_cons f2 (dc_sub_nil)))) ?_) (Nat.le_succ N)
  unfold d_X5_findClosedWays
  refine dg_s (pc' := 1) [.ref x0] rfl (fun _ => rfl) rfl ?_
  refine dg_s (pc' := 4) [.ref (m.2.2.1 x0 8)] rfl (fun _ => rfl) rfl ?_
  refine dg_s (pc' := 5) [.int (-1 : Int32), .ref (m.2.2.1 x0 8)] rfl (fun _ => rfl) rfl ?_
  refine dw_b (fun t => Φ t) (pc' := 8) (fun q1 => []) (fun q1 => q1) rfl (fun _ => rfl) (fun q1 => ?_)
  refine dw_g rfl ?_
  refine dg_s (pc' := 9) [.ref x0] rfl (fun _ => rfl) rfl ?_
  refine dg_s (pc' := 12) [.ref (q1.2.2.1 x0 8)] rfl (fun _ => rfl) rfl ?_
  refine dg_s (pc' := 13) [.int x2, .ref (q1.2.2.1 x0 8)] rfl (fun _ => rfl) rfl ?_
  refine dg_s (pc' := 14) [.int (0 : Int32), .int x2, .ref (q1.2.2.1 x0 8)] rfl (fun _ => rfl) rfl ?_
  refine dg_m (pc' := 15) (dc_wi q1 (q1.2.2.1 x0 8) (Int32.toNatClampNeg x2) (0 : Int32)) [] rfl (fun _ => rfl) rfl ?_
  refine dg_s (pc' := 16) [.ref x0] rfl (fun _ => rfl) rfl ?_
  refine dg_s (pc' := 17) [.ref x1, .ref x0] rfl (fun _ => rfl) rfl ?_
  refine dw_b (fun t => Φ t) (pc' := 20) (fun q2 => []) (fun q2 => q2) rfl (fun _ => rfl) (fun q2 => ?_)
  refine dw_g rfl ?_
  refine dg_s (pc' := 21) [.int (1 : Int32)] rfl (fun _ => rfl) rfl ?_
  refine dw_L (pc' := 22) [(3, .int (1 : Int32)), (0, .ref x0), (1, .ref x1), (2, .int x2)] [] rfl (fun _ => rfl) ?_
  exact dw_j rfl (fun lv1 hv => k_X5_findClosedWays_l22 (Φ := (fun t => Φ t)) x0 x1 x2 (fun _b => kR _b) N  (1 : Int32) q2 lv1 (hv.1 _ rfl) (hv.2.1 _ rfl) (hv.2.2.1 _ rfl) (hv.2.2.2.1 _ rfl))
noncomputable def H_X5_findClosedWays : dc_H := fun As m k => match As with
  | [.ref x0, .ref x1, .int x2] => (d_X5_findClosedWays x0 x1 x2 m).bind (fun q => k (none) q)
  | _ => dc_kz
theorem H_X5_findClosedWays_ok {u : Nat} : dc_cok u 67 H_X5_findClosedWays := fun M' hG N As m k P hz hP => by
  obtain rfl : ab_M_X5_findClosedWays = M' := Option.some.inj hG
  unfold H_X5_findClosedWays at hP
  split at hP
  · rename_i x0 x1 x2
    exact dc_pv.imp (k_X5_findClosedWays (Φ := fun (t : Option dc_M) r m' => P (t.bind (fun q => k (none) q)) → P (k r m')) x0 x1 x2 m (fun _ h => h) rfl rfl rfl) (fun r m' h => h hP)
  · exact absurd hP hz
def C_X9_lowest : List (Nat × dc_H) := [(229, H_J6_bitCount_0f7a4)]
theorem CO_X9_lowest {u : Nat} : dc_CO u C_X9_lowest := dc_CO_cons H_J6_bitCount_0f7a4_ok (dc_CO_nil)
def S_X9_lowest : List (Nat × List Nat) := []
def d_X9_lowest (x0 : Int32) (m : dc_M) : Int32 :=
  (d_J6_bitCount_0f7a4 ((x0 &&& (-x0)) - (1 : Int32)) m)
set_option maxHeartbeats 8000000 in
theorem k_X9_lowest {u : Nat} {N : Nat} {Φ : Int32 → Option Value → dc_M → Prop} (x0 : Int32) (m : dc_M) (kR : ∀ (v : Int32), Φ (v) (some (.int v)) m)  {lv : ab_L} (f0 : ab_lk lv 0 = some (.int x0)) : dc_pv u N ab_M_X9_lowest 0 lv [] m (Φ (d_X9_lowest x0 m)) := by
  refine dc_pv.mono (dc_ok (C := C_X9_lowest) (S := S_X9_lowest) CO_X9_lowest 400 0 [(0, .int x0)] lv [] m (dc_sub_cons f0 (dc_sub_nil)) ?_) (Nat.le_succ N)
  unfold d_X9_lowest
  refine dg_s (pc' := 1) [.int x0] rfl (fun _ => rfl) rfl ?_
  refine dg_s (pc' := 2) [.int x0, .int x0] rfl (fun _ => rfl) rfl ?_
  refine dg_s (pc' := 3) [.int (-x0), .int x0] rfl (fun _ => rfl) rfl ?_
  refine dg_s (pc' := 4) [.int (x0 &&& (-x0))] rfl (fun _ => rfl) rfl ?_
  refine dg_s (pc' := 5) [.int (1 : Int32), .int (x0 &&& (-x0))] rfl (fun _ => rfl) rfl ?_
  refine dg_s (pc' := 6) [.int ((x0 &&& (-x0)) - (1 : Int32))] rfl (fun _ => rfl) rfl ?_
  refine dg_s (pc' := 9) [.int (d_J6_bitCount_0f7a4 ((x0 &&& (-x0)) - (1 : Int32)) m)] rfl (fun _ => rfl) rfl ?_
  exact dw_r (some (.inl (some (.int (d_J6_bitCount_0f7a4 ((x0 &&& (-x0)) - (1 : Int32)) m)), m))) rfl (fun _ => rfl) (kR _)
def H_X9_lowest : dc_H := fun As m k => match As with
  | [.int x0] => k (some (.int (d_X9_lowest x0 m))) m
  | _ => dc_kz
theorem H_X9_lowest_ok {u : Nat} : dc_cok u 144 H_X9_lowest := fun M' hG N As m k P hz hP => by
  obtain rfl : ab_M_X9_lowest = M' := Option.some.inj hG
  unfold H_X9_lowest at hP
  split at hP
  · rename_i x0
    exact dc_pv.imp (k_X9_lowest (Φ := fun (t : Int32) r m' => P (k (some (.int t)) m) → P (k r m')) x0 m (fun _  h => h) rfl) (fun r m' h => h hP)
  · exact absurd hP hz
def C_X5_findEnds : List (Nat × dc_H) := [(229, H_J6_bitCount_0f7a4), (144, H_X9_lowest)]
theorem CO_X5_findEnds {u : Nat} : dc_CO u C_X5_findEnds := dc_CO_cons H_J6_bitCount_0f7a4_ok (dc_CO_cons H_X9_lowest_ok (dc_CO_nil))
def S_X5_findEnds : List (Nat × List Nat) := [(2, [0, 1, 2])]
noncomputable def d_X5_findEnds_l2b (x0 : Nat) (x1 : Nat) (x2 : Int32) (m : dc_M) : Option ((Int32 × dc_M) ⊕ (Int32 × dc_M)) :=
  (if (Int32.toInt (m.1 x1 2)) ≤ (Int32.toInt x2) then some (Sum.inr (((1 : Int32), m))) else (if ¬ (Int32.toInt (d_J6_bitCount_0f7a4 (m.1 (x1 + 9) (Int32.toNatClampNeg x2)) m)) = 1 then some (Sum.inr (((0 : Int32), m))) else (if (Int32.toInt (d_J6_bitCount_0f7a4 (m.1 (x1 + 10) (Int32.toNatClampNeg x2)) m)) = 1 then some (Sum.inl ((x2 + (1 : Int32)), (dc_wi (dc_wi m (x0 + 1) (Int32.toNatClampNeg x2) (d_X9_lowest (m.1 (x1 + 9) (Int32.toNatClampNeg x2)) m)) (x0 + 2) (Int32.toNatClampNeg x2) (d_X9_lowest ((dc_wi m (x0 + 1) (Int32.toNatClampNeg x2) (d_X9_lowest (m.1 (x1 + 9) (Int32.toNatClampNeg x2)) m)).1 (x1 + 10) (Int32.toNatClampNeg x2)) (dc_wi m (x0 + 1) (Int32.toNatClampNeg x2) (d_X9_lowest (m.1 (x1 + 9) (Int32.toNatClampNeg x2)) m)))))) else some (Sum.inr (((0 : Int32), m))))))
noncomputable def d_X5_findEnds_l2s (x0 : Nat) (x1 : Nat) : (Int32 × dc_M) → Option ((Int32 × dc_M) ⊕ (Int32 × dc_M)) := fun s => d_X5_findEnds_l2b x0 x1 s.1 s.2
noncomputable def d_X5_findEnds_l2 (x0 : Nat) (x1 : Nat) (x2 : Int32) (m : dc_M) : Option (Int32 × dc_M) := dc_lp (d_X5_findEnds_l2s x0 x1) (x2, m)
set_option maxHeartbeats 8000000 in
theorem k_X5_findEnds_l2 {u : Nat} {Φ : (Option (Int32 × dc_M)) → Option Value → dc_M → Prop} (x0 : Nat) (x1 : Nat) (kR : ∀ (v : Int32) (m : dc_M), Φ (some ((v, m))) (some (.int v)) m) : ∀ (N : Nat), ∀ (x2 : Int32) (m : dc_M) (lv : ab_L), ab_lk lv 0 = some (.ref x0) → ab_lk lv 1 = some (.ref x1) → ab_lk lv 2 = some (.int x2) → dc_pv u N ab_M_X5_findEnds 2 lv [] m (Φ (d_X5_findEnds_l2 x0 x1 x2 m)) := by
  intro N
  induction N with
  | zero => intros; exact dc_pv_zero
  | succ N ih =>
    intro x2 m lv f0 f1 f2
    refine dc_ok (C := C_X5_findEnds) (S := S_X5_findEnds) CO_X5_findEnds 400 2 [(0, .ref x0), (1, .ref x1), (2, .int x2)] lv [] m (dc_sub_cons f0 (dc_sub_cons f1 (dc_sub_cons f2 (dc_sub_nil)))) ?_
    unfold d_X5_findEnds_l2
    rw [dc_lp_eq]
    show (fun t x => dc_lf u N ab_M_X5_findEnds (Φ (Option.bind t (dc_bk (d_X5_findEnds_l2s x0 x1)))) x) (d_X5_findEnds_l2b x0 x1 x2 m) _
    dsimp only
    unfold d_X5_findEnds_l2b
    refine dg_s (pc' := 3) [.int x2] rfl (fun _ => rfl) rfl ?_
    refine dg_s (pc' := 4) [.ref x1, .int x2] rfl (fun _ => rfl) rfl ?_
    refine dg_s (pc' := 7) [.int (m.1 x1 2), .int x2] rfl (fun _ => rfl) rfl ?_
    refine dw_if (fun t => Φ (Option.bind t (dc_bk (d_X5_findEnds_l2s x0 x1)))) ((Int32.toInt (m.1 x1 2)) ≤ (Int32.toInt x2)) [] 74 10 rfl (fun _ => rfl) (fun c0 => ?_) (fun c0 => ?_)
    · refine dw_g rfl ?_
      refine dg_s (pc' := 75) [.int (1 : Int32)] rfl (fun _ => rfl) rfl ?_
      exact dw_r (some (.inl (some (.int (1 : Int32)), m))) rfl (fun _ => rfl) (kR _ _)
    · refine dw_g rfl ?_
      refine dg_s (pc' := 11) [.ref x1] rfl (fun _ => rfl) rfl ?_
      refine dg_s (pc' := 14) [.ref (x1 + 9)] rfl (fun _ => rfl) rfl ?_
      refine dg_s (pc' := 15) [.int x2, .ref (x1 + 9)] rfl (fun _ => rfl) rfl ?_
      refine dg_s (pc' := 16) [.int (m.1 (x1 + 9) (Int32.toNatClampNeg x2))] rfl (fun _ => rfl) rfl ?_
      refine dg_s (pc' := 19) [.int (d_J6_bitCount_0f7a4 (m.1 (x1 + 9) (Int32.toNatClampNeg x2)) m)] rfl (fun _ => rfl) rfl ?_
      refine dg_s (pc' := 20) [.int (1 : Int32), .int (d_J6_bitCount_0f7a4 (m.1 (x1 + 9) (Int32.toNatClampNeg x2)) m)] rfl (fun _ => rfl) rfl ?_
      refine dw_if (fun t => Φ (Option.bind t (dc_bk (d_X5_findEnds_l2s x0 x1)))) (¬ (Int32.toInt (d_J6_bitCount_0f7a4 (m.1 (x1 + 9) (Int32.toNatClampNeg x2)) m)) = 1) [] 36 23 rfl (fun _ => rfl) (fun c1 => ?_) (fun c1 => ?_)
      · refine dw_g rfl ?_
        refine dg_s (pc' := 37) [.int (0 : Int32)] rfl (fun _ => rfl) rfl ?_
        exact dw_r (some (.inl (some (.int (0 : Int32)), m))) rfl (fun _ => rfl) (kR _ _)
      · refine dw_g rfl ?_
        refine dg_s (pc' := 24) [.ref x1] rfl (fun _ => rfl) rfl ?_
        refine dg_s (pc' := 27) [.ref (x1 + 10)] rfl (fun _ => rfl) rfl ?_
        refine dg_s (pc' := 28) [.int x2, .ref (x1 + 10)] rfl (fun _ => rfl) rfl ?_
        refine dg_s (pc' := 29) [.int (m.1 (x1 + 10) (Int32.toNatClampNeg x2))] rfl (fun _ => rfl) rfl ?_
        refine dg_s (pc' := 32) [.int (d_J6_bitCount_0f7a4 (m.1 (x1 + 10) (Int32.toNatClampNeg x2)) m)] rfl (fun _ => rfl) rfl ?_
        refine dg_s (pc' := 33) [.int (1 : Int32), .int (d_J6_bitCount_0f7a4 (m.1 (x1 + 10) (Int32.toNatClampNeg x2)) m)] rfl (fun _ => rfl) rfl ?_
        refine dw_if (fun t => Φ (Option.bind t (dc_bk (d_X5_findEnds_l2s x0 x1)))) ((Int32.toInt (d_J6_bitCount_0f7a4 (m.1 (x1 + 10) (Int32.toNatClampNeg x2)) m)) = 1) [] 38 36 rfl (fun _ => rfl) (fun c2 => ?_) (fun c2 => ?_)
        · refine dw_g rfl ?_
          refine dg_s (pc' := 39) [.ref x0] rfl (fun _ => rfl) rfl ?_
          refine dg_s (pc' := 42) [.ref (x0 + 1)] rfl (fun _ => rfl) rfl ?_
          refine dg_s (pc' := 43) [.int x2, .ref (x0 + 1)] rfl (fun _ => rfl) rfl ?_
          refine dg_s (pc' := 44) [.ref x1, .int x2, .ref (x0 + 1)] rfl (fun _ => rfl) rfl ?_
          refine dg_s (pc' := 47) [.ref (x1 + 9), .int x2, .ref (x0 + 1)] rfl (fun _ => rfl) rfl ?_
          refine dg_s (pc' := 48) [.int x2, .ref (x1 + 9), .int x2, .ref (x0 + 1)] rfl (fun _ => rfl) rfl ?_
          refine dg_s (pc' := 49) [.int (m.1 (x1 + 9) (Int32.toNatClampNeg x2)), .int x2, .ref (x0 + 1)] rfl (fun _ => rfl) rfl ?_
          refine dg_s (pc' := 52) [.int (d_X9_lowest (m.1 (x1 + 9) (Int32.toNatClampNeg x2)) m), .int x2, .ref (x0 + 1)] rfl (fun _ => rfl) rfl ?_
          refine dg_m (pc' := 53) (dc_wi m (x0 + 1) (Int32.toNatClampNeg x2) (d_X9_lowest (m.1 (x1 + 9) (Int32.toNatClampNeg x2)) m)) [] rfl (fun _ => rfl) rfl ?_
          refine dg_s (pc' := 54) [.ref x0] rfl (fun _ => rfl) rfl ?_
          refine dg_s (pc' := 57) [.ref (x0 + 2)] rfl (fun _ => rfl) rfl ?_
          refine dg_s (pc' := 58) [.int x2, .ref (x0 + 2)] rfl (fun _ => rfl) rfl ?_
          refine dg_s (pc' := 59) [.ref x1, .int x2, .ref (x0 + 2)] rfl (fun _ => rfl) rfl ?_
          refine dg_s (pc' := 62) [.ref (x1 + 10), .int x2, .ref (x0 + 2)] rfl (fun _ => rfl) rfl ?_
          refine dg_s (pc' := 63) [.int x2, .ref (x1 + 10), .int x2, .ref (x0 + 2)] rfl (fun _ => rfl) rfl ?_
          refine dg_s (pc' := 64) [.int ((dc_wi m (x0 + 1) (Int32.toNatClampNeg x2) (d_X9_lowest (m.1 (x1 + 9) (Int32.toNatClampNeg x2)) m)).1 (x1 + 10) (Int32.toNatClampNeg x2)), .int x2, .ref (x0 + 2)] rfl (fun _ => rfl) rfl ?_
          refine dg_s (pc' := 67) [.int (d_X9_lowest ((dc_wi m (x0 + 1) (Int32.toNatClampNeg x2) (d_X9_lowest (m.1 (x1 + 9) (Int32.toNatClampNeg x2)) m)).1 (x1 + 10) (Int32.toNatClampNeg x2)) (dc_wi m (x0 + 1) (Int32.toNatClampNeg x2) (d_X9_lowest (m.1 (x1 + 9) (Int32.toNatClampNeg x2)) m))), .int x2, .ref (x0 + 2)] rfl (fun _ => rfl) rfl ?_
          refine dg_m (pc' := 68) (dc_wi (dc_wi m (x0 + 1) (Int32.toNatClampNeg x2) (d_X9_lowest (m.1 (x1 + 9) (Int32.toNatClampNeg x2)) m)) (x0 + 2) (Int32.toNatClampNeg x2) (d_X9_lowest ((dc_wi m (x0 + 1) (Int32.toNatClampNeg x2) (d_X9_lowest (m.1 (x1 + 9) (Int32.toNatClampNeg x2)) m)).1 (x1 + 10) (Int32.toNatClampNeg x2)) (dc_wi m (x0 + 1) (Int32.toNatClampNeg x2) (d_X9_lowest (m.1 (x1 + 9) (Int32.toNatClampNeg x2)) m)))) [] rfl (fun _ => rfl) rfl ?_
          refine dg_L (pc' := 71) [(2, .int (x2 + (1 : Int32))), (0, .ref x0), (1, .ref x1)] [] rfl (fun _ => rfl) rfl ?_
          refine dw_s (pc' := 2) [] rfl (fun _ => rfl) ?_
          exact dw_j rfl (fun lv1 hv => ih (x2 + (1 : Int32)) (dc_wi (dc_wi m (x0 + 1) (Int32.toNatClampNeg x2) (d_X9_lowest (m.1 (x1 + 9) (Int32.toNatClampNeg x2)) m)) (x0 + 2) (Int32.toNatClampNeg x2) (d_X9_lowest ((dc_wi m (x0 + 1) (Int32.toNatClampNeg x2) (d_X9_lowest (m.1 (x1 + 9) (Int32.toNatClampNeg x2)) m)).1 (x1 + 10) (Int32.toNatClampNeg x2)) (dc_wi m (x0 + 1) (Int32.toNatClampNeg x2) (d_X9_lowest (m.1 (x1 + 9) (Int32.toNatClampNeg x2)) m)))) lv1 (hv.1 _ rfl) (hv.2.1 _ rfl) (hv.2.2.1 _ rfl))
        · refine dw_g rfl ?_
          refine dg_s (pc' := 37) [.int (0 : Int32)] rfl (fun _ => rfl) rfl ?_
          exact dw_r (some (.inl (some (.int (0 : Int32)), m))) rfl (fun _ => rfl) (kR _ _)
noncomputable def d_X5_findEnds (x0 : Nat) (x1 : Nat) (m : dc_M) : Option (Int32 × dc_M) :=
  (d_X5_findEnds_l2 x0 x1 (0 : Int32) m)
set_option maxHeartbeats 8000000 in
theorem k_X5_findEnds {u : Nat} {N : Nat} {Φ : (Option (Int32 × dc_M)) → Option Value → dc_M → Prop} (x0 : Nat) (x1 : Nat) (m : dc_M) (kR : ∀ (v : Int32) (m : dc_M), Φ (some ((v, m))) (some (.int v)) m)  {lv : ab_L} (f0 : ab_lk lv 0 = some (.ref x0)) (f1 : ab_lk lv 1 = some (.ref x1)) : dc_pv u N ab_M_X5_findEnds 0 lv [] m (Φ (d_X5_findEnds x0 x1 m)) := by
  refine dc_pv.mono (dc_ok (C := C_X5_findEnds) (S := S_X5_findEnds) CO_X5_findEnds 400 0 [(0, .ref x0), (1, .ref x1)] lv [] m (dc_sub_cons f0 (dc_sub_cons f1 (dc_sub_nil))) ?_) (Nat.le_succ N)
  unfold d_X5_findEnds
  refine dg_s (pc' := 1) [.int (0 : Int32)] rfl (fun _ => rfl) rfl ?_
  refine dw_L (pc' := 2) [(2, .int (0 : Int32)), (0, .ref x0), (1, .ref x1)] [] rfl (fun _ => rfl) ?_
  exact dw_j rfl (fun lv1 hv => k_X5_findEnds_l2 (Φ := (fun t => Φ t)) x0 x1 (fun _a _b => kR _a _b) N  (0 : Int32) m lv1 (hv.1 _ rfl) (hv.2.1 _ rfl) (hv.2.2.1 _ rfl))
noncomputable def H_X5_findEnds : dc_H := fun As m k => match As with
  | [.ref x0, .ref x1] => (d_X5_findEnds x0 x1 m).bind (fun q => k (some (.int q.1)) q.2)
  | _ => dc_kz
theorem H_X5_findEnds_ok {u : Nat} : dc_cok u 64 H_X5_findEnds := fun M' hG N As m k P hz hP => by
  obtain rfl : ab_M_X5_findEnds = M' := Option.some.inj hG
  unfold H_X5_findEnds at hP
  split at hP
  · rename_i x0 x1
    exact dc_pv.imp (k_X5_findEnds (Φ := fun (t : Option (Int32 × dc_M)) r m' => P (t.bind (fun q => k (some (.int q.1)) q.2)) → P (k r m')) x0 x1 m (fun _ _ h => h) rfl rfl) (fun r m' h => h hP)
  · exact absurd hP hz
def C_X5_waitsForNone : List (Nat × dc_H) := []
theorem CO_X5_waitsForNone {u : Nat} : dc_CO u C_X5_waitsForNone := dc_CO_nil
def S_X5_waitsForNone : List (Nat × List Nat) := [(18, [0, 1, 3, 4, 5])]
noncomputable def d_X5_waitsForNone_l18b (x0 : Nat) (x1 : Nat) (x3 : Int32) (x4 : Int32) (x5 : Int32) (m : dc_M) : Option (Int32 ⊕ Int32) :=
  (if (Int32.toInt (m.1 x1 2)) ≤ (Int32.toInt x5) then some (Sum.inr ((1 : Int32))) else (if (Int32.toInt ((x4 >>> (x5 &&& 31)) &&& (1 : Int32))) = 0 then some (Sum.inl (x5 + (1 : Int32))) else (if ¬ (Int32.toInt ((x3 >>> ((m.1 (x0 + 1) (Int32.toNatClampNeg x5)) &&& 31)) &&& (1 : Int32))) = 0 then some (Sum.inl (x5 + (1 : Int32))) else some (Sum.inr ((0 : Int32))))))
noncomputable def d_X5_waitsForNone_l18s (x0 : Nat) (x1 : Nat) (x3 : Int32) (x4 : Int32) (m : dc_M) : Int32 → Option (Int32 ⊕ Int32) := fun s => d_X5_waitsForNone_l18b x0 x1 x3 x4 s m
noncomputable def d_X5_waitsForNone_l18 (x0 : Nat) (x1 : Nat) (x3 : Int32) (x4 : Int32) (x5 : Int32) (m : dc_M) : Option Int32 := dc_lp (d_X5_waitsForNone_l18s x0 x1 x3 x4 m) x5
set_option maxHeartbeats 8000000 in
theorem k_X5_waitsForNone_l18 {u : Nat} {Φ : (Option Int32) → Option Value → dc_M → Prop} (x0 : Nat) (x1 : Nat) (x3 : Int32) (x4 : Int32) (m : dc_M) (kR : ∀ (v : Int32), Φ (some (v)) (some (.int v)) m) : ∀ (N : Nat), ∀ (x5 : Int32) (lv : ab_L), ab_lk lv 0 = some (.ref x0) → ab_lk lv 1 = some (.ref x1) → ab_lk lv 3 = some (.int x3) → ab_lk lv 4 = some (.int x4) → ab_lk lv 5 = some (.int x5) → dc_pv u N ab_M_X5_waitsForNone 18 lv [] m (Φ (d_X5_waitsForNone_l18 x0 x1 x3 x4 x5 m)) := by
  intro N
  induction N with
  | zero => intros; exact dc_pv_zero
  | succ N ih =>
    intro x5 lv f0 f1 f3 f4 f5
    refine dc_ok (C := C_X5_waitsForNone) (S := S_X5_waitsForNone) CO_X5_waitsForNone 400 18 [(0, .ref x0), (1, .ref x1), (3, .int x3), (4, .int x4), (5, .int x5)] lv [] m (dc_sub_cons f0 (dc_sub_cons f1 (dc_sub_cons f3 (dc_sub_cons f4 (dc_sub_cons f5 (dc_sub_nil)))))) ?_
    unfold d_X5_waitsForNone_l18
    rw [dc_lp_eq]
    show (fun t x => dc_lf u N ab_M_X5_waitsForNone (Φ (Option.bind t (dc_bk (d_X5_waitsForNone_l18s x0 x1 x3 x4 m)))) x) (d_X5_waitsForNone_l18b x0 x1 x3 x4 x5 m) _
    dsimp only
    unfold d_X5_waitsForNone_l18b
    refine dg_s (pc' := 20) [.int x5] rfl (fun _ => rfl) rfl ?_
    refine dg_s (pc' := 21) [.ref x1, .int x5] rfl (fun _ => rfl) rfl ?_
    refine dg_s (pc' := 24) [.int (m.1 x1 2), .int x5] rfl (fun _ => rfl) rfl ?_
    refine dw_if (fun t => Φ (Option.bind t (dc_bk (d_X5_waitsForNone_l18s x0 x1 x3 x4 m)))) ((Int32.toInt (m.1 x1 2)) ≤ (Int32.toInt x5)) [] 59 27 rfl (fun _ => rfl) (fun c0 => ?_) (fun c0 => ?_)
    · refine dw_g rfl ?_
      refine dg_s (pc' := 60) [.int (1 : Int32)] rfl (fun _ => rfl) rfl ?_
      exact dw_r (some (.inl (some (.int (1 : Int32)), m))) rfl (fun _ => rfl) (kR _)
    · refine dw_g rfl ?_
      refine dg_s (pc' := 29) [.int x4] rfl (fun _ => rfl) rfl ?_
      refine dg_s (pc' := 31) [.int x5, .int x4] rfl (fun _ => rfl) rfl ?_
      refine dg_s (pc' := 32) [.int (x4 >>> (x5 &&& 31))] rfl (fun _ => rfl) rfl ?_
      refine dg_s (pc' := 33) [.int (1 : Int32), .int (x4 >>> (x5 &&& 31))] rfl (fun _ => rfl) rfl ?_
      refine dg_s (pc' := 34) [.int ((x4 >>> (x5 &&& 31)) &&& (1 : Int32))] rfl (fun _ => rfl) rfl ?_
      refine dw_if (fun t => Φ (Option.bind t (dc_bk (d_X5_waitsForNone_l18s x0 x1 x3 x4 m)))) ((Int32.toInt ((x4 >>> (x5 &&& 31)) &&& (1 : Int32))) = 0) [] 53 37 rfl (fun _ => rfl) (fun c1 => ?_) (fun c1 => ?_)
      · refine dw_g rfl ?_
        refine dg_L (pc' := 56) [(5, .int (x5 + (1 : Int32))), (0, .ref x0), (1, .ref x1), (3, .int x3), (4, .int x4)] [] rfl (fun _ => rfl) rfl ?_
        refine dw_s (pc' := 18) [] rfl (fun _ => rfl) ?_
        exact dw_j rfl (fun lv1 hv => ih (x5 + (1 : Int32)) lv1 (hv.1 _ rfl) (hv.2.1 _ rfl) (hv.2.2.1 _ rfl) (hv.2.2.2.1 _ rfl) (hv.2.2.2.2.1 _ rfl))
      · refine dw_g rfl ?_
        refine dg_s (pc' := 38) [.int x3] rfl (fun _ => rfl) rfl ?_
        refine dg_s (pc' := 39) [.ref x0, .int x3] rfl (fun _ => rfl) rfl ?_
        refine dg_s (pc' := 42) [.ref (x0 + 1), .int x3] rfl (fun _ => rfl) rfl ?_
        refine dg_s (pc' := 44) [.int x5, .ref (x0 + 1), .int x3] rfl (fun _ => rfl) rfl ?_
        refine dg_s (pc' := 45) [.int (m.1 (x0 + 1) (Int32.toNatClampNeg x5)), .int x3] rfl (fun _ => rfl) rfl ?_
        refine dg_s (pc' := 46) [.int (x3 >>> ((m.1 (x0 + 1) (Int32.toNatClampNeg x5)) &&& 31))] rfl (fun _ => rfl) rfl ?_
        refine dg_s (pc' := 47) [.int (1 : Int32), .int (x3 >>> ((m.1 (x0 + 1) (Int32.toNatClampNeg x5)) &&& 31))] rfl (fun _ => rfl) rfl ?_
        refine dg_s (pc' := 48) [.int ((x3 >>> ((m.1 (x0 + 1) (Int32.toNatClampNeg x5)) &&& 31)) &&& (1 : Int32))] rfl (fun _ => rfl) rfl ?_
        refine dw_if (fun t => Φ (Option.bind t (dc_bk (d_X5_waitsForNone_l18s x0 x1 x3 x4 m)))) (¬ (Int32.toInt ((x3 >>> ((m.1 (x0 + 1) (Int32.toNatClampNeg x5)) &&& 31)) &&& (1 : Int32))) = 0) [] 53 51 rfl (fun _ => rfl) (fun c2 => ?_) (fun c2 => ?_)
        · refine dw_g rfl ?_
          refine dg_L (pc' := 56) [(5, .int (x5 + (1 : Int32))), (0, .ref x0), (1, .ref x1), (3, .int x3), (4, .int x4)] [] rfl (fun _ => rfl) rfl ?_
          refine dw_s (pc' := 18) [] rfl (fun _ => rfl) ?_
          exact dw_j rfl (fun lv1 hv => ih (x5 + (1 : Int32)) lv1 (hv.1 _ rfl) (hv.2.1 _ rfl) (hv.2.2.1 _ rfl) (hv.2.2.2.1 _ rfl) (hv.2.2.2.2.1 _ rfl))
        · refine dw_g rfl ?_
          refine dg_s (pc' := 52) [.int (0 : Int32)] rfl (fun _ => rfl) rfl ?_
          exact dw_r (some (.inl (some (.int (0 : Int32)), m))) rfl (fun _ => rfl) (kR _)
noncomputable def d_X5_waitsForNone (x0 : Nat) (x1 : Nat) (x2 : Int32) (x3 : Int32) (m : dc_M) : Option Int32 :=
  (d_X5_waitsForNone_l18 x0 x1 x3 ((m.1 (x1 + 6) (Int32.toNatClampNeg x2)) &&& ((m.1 x1 13) ^^^ (-1 : Int32))) (0 : Int32) m)
set_option maxHeartbeats 8000000 in
theorem k_X5_waitsForNone {u : Nat} {N : Nat} {Φ : (Option Int32) → Option Value → dc_M → Prop} (x0 : Nat) (x1 : Nat) (x2 : Int32) (x3 : Int32) (m : dc_M) (kR : ∀ (v : Int32), Φ (some (v)) (some (.int v)) m)  {lv : ab_L} (f0 : ab_lk lv 0 = some (.ref x0)) (f1 : ab_lk lv 1 = some (.ref x1)) (f2 : ab_lk lv 2 = some (.int x2)) (f3 : ab_lk lv 3 = some (.int x3)) : dc_pv u N ab_M_X5_waitsForNone 0 lv [] m (Φ (d_X5_waitsForNone x0 x1 x2 x3 m)) := by
  refine dc_pv.mono (dc_ok (C := C_X5_waitsForNone) (S := S_X5_waitsForNone) CO_X5_waitsForNone 400 0 [(0, .ref x0), (1, .ref x1), (2, .int x2), (3, .int x3)] lv [] m (dc_sub_cons f0 (dc_sub_cons f1 (dc_sub_cons f2 (dc_sub_cons f3 (dc_sub_nil))))) ?_) (Nat.le_succ N)
  unfold d_X5_waitsForNone
  refine dg_s (pc' := 1) [.ref x1] rfl (fun _ => rfl) rfl ?_
  refine dg_s (pc' := 4) [.ref (x1 + 6)] rfl (fun _ => rfl) rfl ?_
  refine dg_s (pc' := 5) [.int x2, .ref (x1 + 6)] rfl (fun _ => rfl) rfl ?_
  refine dg_s (pc' := 6) [.int (m.1 (x1 + 6) (Int32.toNatClampNeg x2))] rfl (fun _ => rfl) rfl ?_
  refine dg_s (pc' := 7) [.ref x1, .int (m.1 (x1 + 6) (Int32.toNatClampNeg x2))] rfl (fun _ => rfl) rfl ?_
  refine dg_s (pc' := 10) [.int (m.1 x1 13), .int (m.1 (x1 + 6) (Int32.toNatClampNeg x2))] rfl (fun _ => rfl) rfl ?_
  refine dg_s (pc' := 11) [.int (-1 : Int32), .int (m.1 x1 13), .int (m.1 (x1 + 6) (Int32.toNatClampNeg x2))] rfl (fun _ => rfl) rfl ?_
  refine dg_s (pc' := 12) [.int ((m.1 x1 13) ^^^ (-1 : Int32)), .int (m.1 (x1 + 6) (Int32.toNatClampNeg x2))] rfl (fun _ => rfl) rfl ?_
  refine dg_s (pc' := 13) [.int ((m.1 (x1 + 6) (Int32.toNatClampNeg x2)) &&& ((m.1 x1 13) ^^^ (-1 : Int32)))] rfl (fun _ => rfl) rfl ?_
  refine dg_L (pc' := 15) [(4, .int ((m.1 (x1 + 6) (Int32.toNatClampNeg x2)) &&& ((m.1 x1 13) ^^^ (-1 : Int32)))), (0, .ref x0), (1, .ref x1), (2, .int x2), (3, .int x3)] [] rfl (fun _ => rfl) rfl ?_
  refine dg_s (pc' := 16) [.int (0 : Int32)] rfl (fun _ => rfl) rfl ?_
  refine dw_L (pc' := 18) [(5, .int (0 : Int32)), (4, .int ((m.1 (x1 + 6) (Int32.toNatClampNeg x2)) &&& ((m.1 x1 13) ^^^ (-1 : Int32)))), (0, .ref x0), (1, .ref x1), (2, .int x2), (3, .int x3)] [] rfl (fun _ => rfl) ?_
  exact dw_j rfl (fun lv1 hv => k_X5_waitsForNone_l18 (Φ := (fun t => Φ t)) x0 x1 x3 ((m.1 (x1 + 6) (Int32.toNatClampNeg x2)) &&& ((m.1 x1 13) ^^^ (-1 : Int32))) m (fun _a  => kR _a) N  (0 : Int32) lv1 (hv.1 _ rfl) (hv.2.1 _ rfl) (hv.2.2.1 _ rfl) (hv.2.2.2.1 _ rfl) (hv.2.2.2.2.1 _ rfl))
noncomputable def H_X5_waitsForNone : dc_H := fun As m k => match As with
  | [.ref x0, .ref x1, .int x2, .int x3] => (d_X5_waitsForNone x0 x1 x2 x3 m).bind (fun q => k (some (.int q)) m)
  | _ => dc_kz
theorem H_X5_waitsForNone_ok {u : Nat} : dc_cok u 66 H_X5_waitsForNone := fun M' hG N As m k P hz hP => by
  obtain rfl : ab_M_X5_waitsForNone = M' := Option.some.inj hG
  unfold H_X5_waitsForNone at hP
  split at hP
  · rename_i x0 x1 x2 x3
    exact dc_pv.imp (k_X5_waitsForNone (Φ := fun (t : Option Int32) r m' => P (t.bind (fun q => k (some (.int q)) m)) → P (k r m')) x0 x1 x2 x3 m (fun _  h => h) rfl rfl rfl rfl) (fun r m' h => h hP)
  · exact absurd hP hz
noncomputable def C_X5_putInOrder : List (Nat × dc_H) := [(66, H_X5_waitsForNone)]
theorem CO_X5_putInOrder {u : Nat} : dc_CO u C_X5_putInOrder := dc_CO_cons H_X5_waitsForNone_ok (dc_CO_nil)
def S_X5_putInOrder : List (Nat × List Nat) := [(9, [0, 1, 2, 3]), (20, [0, 1, 2, 3, 4]), (89, [0, 1])]
noncomputable def d_X5_putInOrder_b89 (x0 : Nat) (x1 : Nat) (m : dc_M) : Option (Int32 × dc_M) :=
  (if ¬ (Int32.toInt (m.1 x0 7)) = (Int32.toInt (m.1 x1 1)) then some (((0 : Int32), m)) else some (((1 : Int32), m)))
set_option maxHeartbeats 8000000 in
theorem k_X5_putInOrder_b89 {u : Nat} {N : Nat} {Φ : (Option (Int32 × dc_M)) → Option Value → dc_M → Prop} (x0 : Nat) (x1 : Nat) (m : dc_M) (kR : ∀ (v : Int32) (m : dc_M), Φ (some ((v, m))) (some (.int v)) m)  {lv : ab_L} (f0 : ab_lk lv 0 = some (.ref x0)) (f1 : ab_lk lv 1 = some (.ref x1)) : dc_pv u N ab_M_X5_putInOrder 89 lv [] m (Φ (d_X5_putInOrder_b89 x0 x1 m)) := by
  refine dc_pv.mono (dc_ok (C := C_X5_putInOrder) (S := S_X5_putInOrder) CO_X5_putInOrder 400 89 [(0, .ref x0), (1, .ref x1)] lv [] m (dc_sub_cons f0 (dc_sub_cons f1 (dc_sub_nil))) ?_) (Nat.le_succ N)
  unfold d_X5_putInOrder_b89
  refine dg_s (pc' := 90) [.ref x0] rfl (fun _ => rfl) rfl ?_
  refine dg_s (pc' := 93) [.int (m.1 x0 7)] rfl (fun _ => rfl) rfl ?_
  refine dg_s (pc' := 94) [.ref x1, .int (m.1 x0 7)] rfl (fun _ => rfl) rfl ?_
  refine dg_s (pc' := 97) [.int (m.1 x1 1), .int (m.1 x0 7)] rfl (fun _ => rfl) rfl ?_
  refine dw_if (fun t => Φ t) (¬ (Int32.toInt (m.1 x0 7)) = (Int32.toInt (m.1 x1 1))) [] 104 100 rfl (fun _ => rfl) (fun c0 => ?_) (fun c0 => ?_)
  · refine dw_g rfl ?_
    refine dg_s (pc' := 105) [.int (0 : Int32)] rfl (fun _ => rfl) rfl ?_
    exact dw_r (some (.inl (some (.int (0 : Int32)), m))) rfl (fun _ => rfl) (kR _ _)
  · refine dw_g rfl ?_
    refine dg_s (pc' := 101) [.int (1 : Int32)] rfl (fun _ => rfl) rfl ?_
    refine dg_s (pc' := 105) [.int (1 : Int32)] rfl (fun _ => rfl) rfl ?_
    exact dw_r (some (.inl (some (.int (1 : Int32)), m))) rfl (fun _ => rfl) (kR _ _)
noncomputable def d_X5_putInOrder_l20b (x0 : Nat) (x1 : Nat) (x3 : Int32) (x2 : Int32) (x4 : Int32) (m : dc_M) : Option ((Int32 × Int32 × dc_M) ⊕ ((Int32 × Int32 × dc_M) ⊕ (Int32 × dc_M))) :=
  (if (Int32.toInt (m.1 x1 1)) ≤ (Int32.toInt x4) then some (Sum.inr (Sum.inl (x2, (x3 + (1 : Int32)), m))) else (if ¬ (Int32.toInt ((x2 >>> (x4 &&& 31)) &&& (1 : Int32))) = 0 then some (Sum.inl (x2, (x4 + (1 : Int32)), m)) else ((d_X5_waitsForNone x0 x1 x4 x2 m).bind (fun q1 => (if (Int32.toInt q1) = 0 then some (Sum.inl (x2, (x4 + (1 : Int32)), m)) else some (Sum.inl ((x2 ||| ((1 : Int32) <<< (x4 &&& 31))), (x4 + (1 : Int32)), (dc_wi (dc_wi m (x0 + 3) (Int32.toNatClampNeg (m.1 x0 7)) x4) x0 7 (((dc_wi m (x0 + 3) (Int32.toNatClampNeg (m.1 x0 7)) x4).1 x0 7) + (1 : Int32))))))))))
noncomputable def d_X5_putInOrder_l20s (x0 : Nat) (x1 : Nat) (x3 : Int32) : (Int32 × Int32 × dc_M) → Option ((Int32 × Int32 × dc_M) ⊕ ((Int32 × Int32 × dc_M) ⊕ (Int32 × dc_M))) := fun s => d_X5_putInOrder_l20b x0 x1 x3 s.1 s.2.1 s.2.2
noncomputable def d_X5_putInOrder_l20 (x0 : Nat) (x1 : Nat) (x3 : Int32) (x2 : Int32) (x4 : Int32) (m : dc_M) : Option ((Int32 × Int32 × dc_M) ⊕ (Int32 × dc_M)) := dc_lp (d_X5_putInOrder_l20s x0 x1 x3) (x2, x4, m)
set_option maxHeartbeats 8000000 in
theorem k_X5_putInOrder_l20 {u : Nat} {Φ : (Option ((Int32 × Int32 × dc_M) ⊕ (Int32 × dc_M))) → Option Value → dc_M → Prop} (x0 : Nat) (x1 : Nat) (x3 : Int32) (kR : ∀ (v : Int32) (m : dc_M), Φ (some (Sum.inr ((v, m)))) (some (.int v)) m) : ∀ (N : Nat), (∀ (x2 : Int32) (x3 : Int32) (m : dc_M) (lv : ab_L), ab_lk lv 0 = some (.ref x0) → ab_lk lv 1 = some (.ref x1) → ab_lk lv 2 = some (.int x2) → ab_lk lv 3 = some (.int x3) →  dc_pv u N ab_M_X5_putInOrder 9 lv [] m (Φ (some (Sum.inl (x2, x3, m))))) → ∀ (x2 : Int32) (x4 : Int32) (m : dc_M) (lv : ab_L), ab_lk lv 0 = some (.ref x0) → ab_lk lv 1 = some (.ref x1) → ab_lk lv 2 = some (.int x2) → ab_lk lv 3 = some (.int x3) → ab_lk lv 4 = some (.int x4) → dc_pv u N ab_M_X5_putInOrder 20 lv [] m (Φ (d_X5_putInOrder_l20 x0 x1 x3 x2 x4 m)) := by
  intro N
  induction N with
  | zero => intros; exact dc_pv_zero
  | succ N ih =>
    intro k9 x2 x4 m lv f0 f1 f2 f3 f4
    have k9 := fun a0 a1 a2 a3 a4 a5 a6 a7 => (k9 a0 a1 a2 a3 a4 a5 a6 a7).mono (Nat.le_succ N)
    have ih := ih k9
    refine dc_ok (C := C_X5_putInOrder) (S := S_X5_putInOrder) CO_X5_putInOrder 400 20 [(0, .ref x0), (1, .ref x1), (2, .int x2), (3, .int x3), (4, .int x4)] lv [] m (dc_sub_cons f0 (dc_sub_cons f1 (dc_sub_cons f2 (dc_sub_cons f3 (dc_sub_cons f4 (dc_sub_nil)))))) ?_
    unfold d_X5_putInOrder_l20
    rw [dc_lp_eq]
    show (fun t x => dc_lf u N ab_M_X5_putInOrder (Φ (Option.bind t (dc_bk (d_X5_putInOrder_l20s x0 x1 x3)))) x) (d_X5_putInOrder_l20b x0 x1 x3 x2 x4 m) _
    dsimp only
    unfold d_X5_putInOrder_l20b
    refine dg_s (pc' := 22) [.int x4] rfl (fun _ => rfl) rfl ?_
    refine dg_s (pc' := 23) [.ref x1, .int x4] rfl (fun _ => rfl) rfl ?_
    refine dg_s (pc' := 26) [.int (m.1 x1 1), .int x4] rfl (fun _ => rfl) rfl ?_
    refine dw_if (fun t => Φ (Option.bind t (dc_bk (d_X5_putInOrder_l20s x0 x1 x3)))) ((Int32.toInt (m.1 x1 1)) ≤ (Int32.toInt x4)) [] 83 29 rfl (fun _ => rfl) (fun c0 => ?_) (fun c0 => ?_)
    · refine dw_g rfl ?_
      refine dg_L (pc' := 86) [(3, .int (x3 + (1 : Int32))), (0, .ref x0), (1, .ref x1), (2, .int x2), (4, .int x4)] [] rfl (fun _ => rfl) rfl ?_
      refine dw_s (pc' := 9) [] rfl (fun _ => rfl) ?_
      exact dw_j rfl (fun lv1 hv => k9 x2 (x3 + (1 : Int32)) m lv1 (hv.1 _ rfl) (hv.2.1 _ rfl) (hv.2.2.1 _ rfl) (hv.2.2.2.1 _ rfl))
    · refine dw_g rfl ?_
      refine dg_s (pc' := 30) [.int x2] rfl (fun _ => rfl) rfl ?_
      refine dg_s (pc' := 32) [.int x4, .int x2] rfl (fun _ => rfl) rfl ?_
      refine dg_s (pc' := 33) [.int (x2 >>> (x4 &&& 31))] rfl (fun _ => rfl) rfl ?_
      refine dg_s (pc' := 34) [.int (1 : Int32), .int (x2 >>> (x4 &&& 31))] rfl (fun _ => rfl) rfl ?_
      refine dg_s (pc' := 35) [.int ((x2 >>> (x4 &&& 31)) &&& (1 : Int32))] rfl (fun _ => rfl) rfl ?_
      refine dw_if (fun t => Φ (Option.bind t (dc_bk (d_X5_putInOrder_l20s x0 x1 x3)))) (¬ (Int32.toInt ((x2 >>> (x4 &&& 31)) &&& (1 : Int32))) = 0) [] 77 38 rfl (fun _ => rfl) (fun c1 => ?_) (fun c1 => ?_)
      · refine dw_g rfl ?_
        refine dg_L (pc' := 80) [(4, .int (x4 + (1 : Int32))), (0, .ref x0), (1, .ref x1), (2, .int x2), (3, .int x3)] [] rfl (fun _ => rfl) rfl ?_
        refine dw_s (pc' := 20) [] rfl (fun _ => rfl) ?_
        exact dw_j rfl (fun lv1 hv => ih x2 (x4 + (1 : Int32)) m lv1 (hv.1 _ rfl) (hv.2.1 _ rfl) (hv.2.2.1 _ rfl) (hv.2.2.2.1 _ rfl) (hv.2.2.2.2.1 _ rfl))
      · refine dw_g rfl ?_
        refine dg_s (pc' := 39) [.ref x0] rfl (fun _ => rfl) rfl ?_
        refine dg_s (pc' := 40) [.ref x1, .ref x0] rfl (fun _ => rfl) rfl ?_
        refine dg_s (pc' := 42) [.int x4, .ref x1, .ref x0] rfl (fun _ => rfl) rfl ?_
        refine dg_s (pc' := 43) [.int x2, .int x4, .ref x1, .ref x0] rfl (fun _ => rfl) rfl ?_
        refine dw_b (fun t => Φ (Option.bind t (dc_bk (d_X5_putInOrder_l20s x0 x1 x3)))) (pc' := 46) (fun q1 => [.int q1]) (fun q1 => m) rfl (fun _ => rfl) (fun q1 => ?_)
        refine dw_g rfl ?_
        refine dw_if (fun t => Φ (Option.bind t (dc_bk (d_X5_putInOrder_l20s x0 x1 x3)))) ((Int32.toInt q1) = 0) [] 77 49 rfl (fun _ => rfl) (fun c2 => ?_) (fun c2 => ?_)
        · refine dw_g rfl ?_
          refine dg_L (pc' := 80) [(4, .int (x4 + (1 : Int32))), (0, .ref x0), (1, .ref x1), (2, .int x2), (3, .int x3)] [] rfl (fun _ => rfl) rfl ?_
          refine dw_s (pc' := 20) [] rfl (fun _ => rfl) ?_
          exact dw_j rfl (fun lv1 hv => ih x2 (x4 + (1 : Int32)) m lv1 (hv.1 _ rfl) (hv.2.1 _ rfl) (hv.2.2.1 _ rfl) (hv.2.2.2.1 _ rfl) (hv.2.2.2.2.1 _ rfl))
        · refine dw_g rfl ?_
          refine dg_s (pc' := 50) [.int x2] rfl (fun _ => rfl) rfl ?_
          refine dg_s (pc' := 51) [.int (1 : Int32), .int x2] rfl (fun _ => rfl) rfl ?_
          refine dg_s (pc' := 53) [.int x4, .int (1 : Int32), .int x2] rfl (fun _ => rfl) rfl ?_
          refine dg_s (pc' := 54) [.int ((1 : Int32) <<< (x4 &&& 31)), .int x2] rfl (fun _ => rfl) rfl ?_
          refine dg_s (pc' := 55) [.int (x2 ||| ((1 : Int32) <<< (x4 &&& 31)))] rfl (fun _ => rfl) rfl ?_
          refine dg_L (pc' := 56) [(2, .int (x2 ||| ((1 : Int32) <<< (x4 &&& 31)))), (0, .ref x0), (1, .ref x1), (3, .int x3), (4, .int x4)] [] rfl (fun _ => rfl) rfl ?_
          refine dg_s (pc' := 57) [.ref x0] rfl (fun _ => rfl) rfl ?_
          refine dg_s (pc' := 60) [.ref (x0 + 3)] rfl (fun _ => rfl) rfl ?_
          refine dg_s (pc' := 61) [.ref x0, .ref (x0 + 3)] rfl (fun _ => rfl) rfl ?_
          refine dg_s (pc' := 64) [.int (m.1 x0 7), .ref (x0 + 3)] rfl (fun _ => rfl) rfl ?_
          refine dg_s (pc' := 66) [.int x4, .int (m.1 x0 7), .ref (x0 + 3)] rfl (fun _ => rfl) rfl ?_
          refine dg_m (pc' := 67) (dc_wi m (x0 + 3) (Int32.toNatClampNeg (m.1 x0 7)) x4) [] rfl (fun _ => rfl) rfl ?_
          refine dg_s (pc' := 68) [.ref x0] rfl (fun _ => rfl) rfl ?_
          refine dg_s (pc' := 69) [.ref x0, .ref x0] rfl (fun _ => rfl) rfl ?_
          refine dg_s (pc' := 72) [.int ((dc_wi m (x0 + 3) (Int32.toNatClampNeg (m.1 x0 7)) x4).1 x0 7), .ref x0] rfl (fun _ => rfl) rfl ?_
          refine dg_s (pc' := 73) [.int (1 : Int32), .int ((dc_wi m (x0 + 3) (Int32.toNatClampNeg (m.1 x0 7)) x4).1 x0 7), .ref x0] rfl (fun _ => rfl) rfl ?_
          refine dg_s (pc' := 74) [.int (((dc_wi m (x0 + 3) (Int32.toNatClampNeg (m.1 x0 7)) x4).1 x0 7) + (1 : Int32)), .ref x0] rfl (fun _ => rfl) rfl ?_
          refine dg_m (pc' := 77) (dc_wi (dc_wi m (x0 + 3) (Int32.toNatClampNeg (m.1 x0 7)) x4) x0 7 (((dc_wi m (x0 + 3) (Int32.toNatClampNeg (m.1 x0 7)) x4).1 x0 7) + (1 : Int32))) [] rfl (fun _ => rfl) rfl ?_
          refine dg_L (pc' := 80) [(4, .int (x4 + (1 : Int32))), (2, .int (x2 ||| ((1 : Int32) <<< (x4 &&& 31)))), (0, .ref x0), (1, .ref x1), (3, .int x3)] [] rfl (fun _ => rfl) rfl ?_
          refine dw_s (pc' := 20) [] rfl (fun _ => rfl) ?_
          exact dw_j rfl (fun lv1 hv => ih (x2 ||| ((1 : Int32) <<< (x4 &&& 31))) (x4 + (1 : Int32)) (dc_wi (dc_wi m (x0 + 3) (Int32.toNatClampNeg (m.1 x0 7)) x4) x0 7 (((dc_wi m (x0 + 3) (Int32.toNatClampNeg (m.1 x0 7)) x4).1 x0 7) + (1 : Int32))) lv1 (hv.1 _ rfl) (hv.2.1 _ rfl) (hv.2.2.1 _ rfl) (hv.2.2.2.1 _ rfl) (hv.2.2.2.2.1 _ rfl))
noncomputable def d_X5_putInOrder_l9b (x0 : Nat) (x1 : Nat) (x2 : Int32) (x3 : Int32) (m : dc_M) : Option ((Int32 × Int32 × dc_M) ⊕ (Int32 × dc_M)) :=
  (if (Int32.toInt (m.1 x1 1)) ≤ (Int32.toInt x3) then ((d_X5_putInOrder_b89 x0 x1 m).map (fun z => Sum.inr (z))) else (d_X5_putInOrder_l20 x0 x1 x3 x2 (0 : Int32) m))
noncomputable def d_X5_putInOrder_l9s (x0 : Nat) (x1 : Nat) : (Int32 × Int32 × dc_M) → Option ((Int32 × Int32 × dc_M) ⊕ (Int32 × dc_M)) := fun s => d_X5_putInOrder_l9b x0 x1 s.1 s.2.1 s.2.2
noncomputable def d_X5_putInOrder_l9 (x0 : Nat) (x1 : Nat) (x2 : Int32) (x3 : Int32) (m : dc_M) : Option (Int32 × dc_M) := dc_lp (d_X5_putInOrder_l9s x0 x1) (x2, x3, m)
set_option maxHeartbeats 8000000 in
theorem k_X5_putInOrder_l9 {u : Nat} {Φ : (Option (Int32 × dc_M)) → Option Value → dc_M → Prop} (x0 : Nat) (x1 : Nat) (kR : ∀ (v : Int32) (m : dc_M), Φ (some ((v, m))) (some (.int v)) m) : ∀ (N : Nat), ∀ (x2 : Int32) (x3 : Int32) (m : dc_M) (lv : ab_L), ab_lk lv 0 = some (.ref x0) → ab_lk lv 1 = some (.ref x1) → ab_lk lv 2 = some (.int x2) → ab_lk lv 3 = some (.int x3) → dc_pv u N ab_M_X5_putInOrder 9 lv [] m (Φ (d_X5_putInOrder_l9 x0 x1 x2 x3 m)) := by
  intro N
  induction N with
  | zero => intros; exact dc_pv_zero
  | succ N ih =>
    intro x2 x3 m lv f0 f1 f2 f3
    refine dc_ok (C := C_X5_putInOrder) (S := S_X5_putInOrder) CO_X5_putInOrder 400 9 [(0, .ref x0), (1, .ref x1), (2, .int x2), (3, .int x3)] lv [] m (dc_sub_cons f0 (dc_sub_cons f1 (dc_sub_cons f2 (dc_sub_cons f3 (dc_sub_nil))))) ?_
    unfold d_X5_putInOrder_l9
    rw [dc_lp_eq]
    show (fun t x => dc_lf u N ab_M_X5_putInOrder (Φ (Option.bind t (dc_bk (d_X5_putInOrder_l9s x0 x1)))) x) (d_X5_putInOrder_l9b x0 x1 x2 x3 m) _
    dsimp only
    unfold d_X5_putInOrder_l9b
    refine dg_s (pc' := 10) [.int x3] rfl (fun _ => rfl) rfl ?_
    refine dg_s (pc' := 11) [.ref x1, .int x3] rfl (fun _ => rfl) rfl ?_
    refine dg_s (pc' := 14) [.int (m.1 x1 1), .int x3] rfl (fun _ => rfl) rfl ?_
    refine dw_if (fun t => Φ (Option.bind t (dc_bk (d_X5_putInOrder_l9s x0 x1)))) ((Int32.toInt (m.1 x1 1)) ≤ (Int32.toInt x3)) [] 89 17 rfl (fun _ => rfl) (fun c0 => ?_) (fun c0 => ?_)
    · exact dw_j rfl (fun lv1 hv => k_X5_putInOrder_b89 (Φ := (fun t => Φ (Option.bind (t.map (fun z => Sum.inr (z))) (dc_bk (d_X5_putInOrder_l9s x0 x1))))) x0 x1 m (fun _a _b => kR _a _b)  (hv.1 _ rfl) (hv.2.1 _ rfl))
    · refine dw_g rfl ?_
      refine dg_s (pc' := 18) [.int (0 : Int32)] rfl (fun _ => rfl) rfl ?_
      refine dw_L (pc' := 20) [(4, .int (0 : Int32)), (0, .ref x0), (1, .ref x1), (2, .int x2), (3, .int x3)] [] rfl (fun _ => rfl) ?_
      exact dw_j rfl (fun lv1 hv => k_X5_putInOrder_l20 (Φ := (fun t => Φ (Option.bind t (dc_bk (d_X5_putInOrder_l9s x0 x1))))) x0 x1 x3 (fun _a _b => kR _a _b) N ih x2 (0 : Int32) m lv1 (hv.1 _ rfl) (hv.2.1 _ rfl) (hv.2.2.1 _ rfl) (hv.2.2.2.1 _ rfl) (hv.2.2.2.2.1 _ rfl))
noncomputable def d_X5_putInOrder (x0 : Nat) (x1 : Nat) (m : dc_M) : Option (Int32 × dc_M) :=
  (d_X5_putInOrder_l9 x0 x1 (0 : Int32) (0 : Int32) (dc_wi m x0 7 (0 : Int32)))
set_option maxHeartbeats 8000000 in
theorem k_X5_putInOrder {u : Nat} {N : Nat} {Φ : (Option (Int32 × dc_M)) → Option Value → dc_M → Prop} (x0 : Nat) (x1 : Nat) (m : dc_M) (kR : ∀ (v : Int32) (m : dc_M), Φ (some ((v, m))) (some (.int v)) m)  {lv : ab_L} (f0 : ab_lk lv 0 = some (.ref x0)) (f1 : ab_lk lv 1 = some (.ref x1)) : dc_pv u N ab_M_X5_putInOrder 0 lv [] m (Φ (d_X5_putInOrder x0 x1 m)) := by
  refine dc_pv.mono (dc_ok (C := C_X5_putInOrder) (S := S_X5_putInOrder) CO_X5_putInOrder 400 0 [(0, .ref x0), (1, .ref x1)] lv [] m (dc_sub_cons f0 (dc_sub_cons f1 (dc_sub_nil))) ?_) (Nat.le_succ N)
  unfold d_X5_putInOrder
  refine dg_s (pc' := 1) [.int (0 : Int32)] rfl (fun _ => rfl) rfl ?_
  refine dg_L (pc' := 2) [(2, .int (0 : Int32)), (0, .ref x0), (1, .ref x1)] [] rfl (fun _ => rfl) rfl ?_
  refine dg_s (pc' := 3) [.ref x0] rfl (fun _ => rfl) rfl ?_
  refine dg_s (pc' := 4) [.int (0 : Int32), .ref x0] rfl (fun _ => rfl) rfl ?_
  refine dg_m (pc' := 7) (dc_wi m x0 7 (0 : Int32)) [] rfl (fun _ => rfl) rfl ?_
  refine dg_s (pc' := 8) [.int (0 : Int32)] rfl (fun _ => rfl) rfl ?_
  refine dw_L (pc' := 9) [(3, .int (0 : Int32)), (2, .int (0 : Int32)), (0, .ref x0), (1, .ref x1)] [] rfl (fun _ => rfl) ?_
  exact dw_j rfl (fun lv1 hv => k_X5_putInOrder_l9 (Φ := (fun t => Φ t)) x0 x1 (fun _a _b => kR _a _b) N  (0 : Int32) (0 : Int32) (dc_wi m x0 7 (0 : Int32)) lv1 (hv.1 _ rfl) (hv.2.1 _ rfl) (hv.2.2.1 _ rfl) (hv.2.2.2.1 _ rfl))
noncomputable def H_X5_putInOrder : dc_H := fun As m k => match As with
  | [.ref x0, .ref x1] => (d_X5_putInOrder x0 x1 m).bind (fun q => k (some (.int q.1)) q.2)
  | _ => dc_kz
theorem H_X5_putInOrder_ok {u : Nat} : dc_cok u 65 H_X5_putInOrder := fun M' hG N As m k P hz hP => by
  obtain rfl : ab_M_X5_putInOrder = M' := Option.some.inj hG
  unfold H_X5_putInOrder at hP
  split at hP
  · rename_i x0 x1
    exact dc_pv.imp (k_X5_putInOrder (Φ := fun (t : Option (Int32 × dc_M)) r m' => P (t.bind (fun q => k (some (.int q.1)) q.2)) → P (k r m')) x0 x1 m (fun _ _ h => h) rfl rfl) (fun r m' h => h hP)
  · exact absurd hP hz
noncomputable def C_X5_find : List (Nat × dc_H) := [(71, H_X5_findBeat), (67, H_X5_findClosedWays), (64, H_X5_findEnds), (65, H_X5_putInOrder)]
theorem CO_X5_find {u : Nat} : dc_CO u C_X5_find := dc_CO_cons H_X5_findBeat_ok (dc_CO_cons H_X5_findClosedWays_ok (dc_CO_cons H_X5_findEnds_ok (dc_CO_cons H_X5_putInOrder_ok (dc_CO_nil))))
def S_X5_find : List (Nat × List Nat) := [(37, [0, 1]), (50, [0, 1, 2]), (70, [0, 1])]
noncomputable def d_X5_find_b70 (x0 : Nat) (x1 : Nat) (m : dc_M) : Option dc_M :=
  ((d_X5_findBeat x0 (m.1 x1 1) m).bind (fun q1 => some (q1)))
set_option maxHeartbeats 8000000 in
theorem k_X5_find_b70 {u : Nat} {N : Nat} {Φ : (Option dc_M) → Option Value → dc_M → Prop} (x0 : Nat) (x1 : Nat) (m : dc_M) (kR : ∀  (m : dc_M), Φ (some (m)) (none) m)  {lv : ab_L} (f0 : ab_lk lv 0 = some (.ref x0)) (f1 : ab_lk lv 1 = some (.ref x1)) : dc_pv u N ab_M_X5_find 70 lv [] m (Φ (d_X5_find_b70 x0 x1 m)) := by
  refine dc_pv.mono (dc_ok (C := C_X5_find) (S := S_X5_find) CO_X5_find 400 70 [(0, .ref x0), (1, .ref x1)] lv [] m (dc_sub_cons f0 (dc_sub_cons f1 (dc_sub_nil))) ?_) (Nat.le_succ N)
  unfold d_X5_find_b70
  refine dg_s (pc' := 71) [.ref x0] rfl (fun _ => rfl) rfl ?_
  refine dg_s (pc' := 72) [.ref x1, .ref x0] rfl (fun _ => rfl) rfl ?_
  refine dg_s (pc' := 75) [.int (m.1 x1 1), .ref x0] rfl (fun _ => rfl) rfl ?_
  refine dw_b (fun t => Φ t) (pc' := 78) (fun q1 => []) (fun q1 => q1) rfl (fun _ => rfl) (fun q1 => ?_)
  refine dw_g rfl ?_
  exact dw_r (some (.inl (none, q1))) rfl (fun _ => rfl) (kR _)
noncomputable def d_X5_find_l50b (x0 : Nat) (x1 : Nat) (x2 : Int32) (m : dc_M) : Option ((Int32 × dc_M) ⊕ dc_M) :=
  (if (Int32.toInt (m.1 x1 1)) ≤ (Int32.toInt x2) then ((d_X5_find_b70 x0 x1 m).map (fun z => Sum.inr (z))) else ((d_X5_findClosedWays x0 x1 x2 m).bind (fun q1 => some (Sum.inl ((x2 + (1 : Int32)), q1)))))
noncomputable def d_X5_find_l50s (x0 : Nat) (x1 : Nat) : (Int32 × dc_M) → Option ((Int32 × dc_M) ⊕ dc_M) := fun s => d_X5_find_l50b x0 x1 s.1 s.2
noncomputable def d_X5_find_l50 (x0 : Nat) (x1 : Nat) (x2 : Int32) (m : dc_M) : Option dc_M := dc_lp (d_X5_find_l50s x0 x1) (x2, m)
set_option maxHeartbeats 8000000 in
theorem k_X5_find_l50 {u : Nat} {Φ : (Option dc_M) → Option Value → dc_M → Prop} (x0 : Nat) (x1 : Nat) (kR : ∀  (m : dc_M), Φ (some (m)) (none) m) : ∀ (N : Nat), ∀ (x2 : Int32) (m : dc_M) (lv : ab_L), ab_lk lv 0 = some (.ref x0) → ab_lk lv 1 = some (.ref x1) → ab_lk lv 2 = some (.int x2) → dc_pv u N ab_M_X5_find 50 lv [] m (Φ (d_X5_find_l50 x0 x1 x2 m)) := by
  intro N
  induction N with
  | zero => intros; exact dc_pv_zero
  | succ N ih =>
    intro x2 m lv f0 f1 f2
    refine dc_ok (C := C_X5_find) (S := S_X5_find) CO_X5_find 400 50 [(0, .ref x0), (1, .ref x1), (2, .int x2)] lv [] m (dc_sub_cons f0 (dc_sub_cons f1 (dc_sub_cons f2 (dc_sub_nil)))) ?_
    unfold d_X5_find_l50
    rw [dc_lp_eq]
    show (fun t x => dc_lf u N ab_M_X5_find (Φ (Option.bind t (dc_bk (d_X5_find_l50s x0 x1)))) x) (d_X5_find_l50b x0 x1 x2 m) _
    dsimp only
    unfold d_X5_find_l50b
    refine dg_s (pc' := 51) [.int x2] rfl (fun _ => rfl) rfl ?_
    refine dg_s (pc' := 52) [.ref x1, .int x2] rfl (fun _ => rfl) rfl ?_
    refine dg_s (pc' := 55) [.int (m.1 x1 1), .int x2] rfl (fun _ => rfl) rfl ?_
    refine dw_if (fun t => Φ (Option.bind t (dc_bk (d_X5_find_l50s x0 x1)))) ((Int32.toInt (m.1 x1 1)) ≤ (Int32.toInt x2)) [] 70 58 rfl (fun _ => rfl) (fun c0 => ?_) (fun c0 => ?_)
    · exact dw_j rfl (fun lv1 hv => k_X5_find_b70 (Φ := (fun t => Φ (Option.bind (t.map (fun z => Sum.inr (z))) (dc_bk (d_X5_find_l50s x0 x1))))) x0 x1 m (fun _b => kR _b)  (hv.1 _ rfl) (hv.2.1 _ rfl))
    · refine dw_g rfl ?_
      refine dg_s (pc' := 59) [.ref x0] rfl (fun _ => rfl) rfl ?_
      refine dg_s (pc' := 60) [.ref x1, .ref x0] rfl (fun _ => rfl) rfl ?_
      refine dg_s (pc' := 61) [.int x2, .ref x1, .ref x0] rfl (fun _ => rfl) rfl ?_
      refine dw_b (fun t => Φ (Option.bind t (dc_bk (d_X5_find_l50s x0 x1)))) (pc' := 64) (fun q1 => []) (fun q1 => q1) rfl (fun _ => rfl) (fun q1 => ?_)
      refine dw_g rfl ?_
      refine dg_L (pc' := 67) [(2, .int (x2 + (1 : Int32))), (0, .ref x0), (1, .ref x1)] [] rfl (fun _ => rfl) rfl ?_
      refine dw_s (pc' := 50) [] rfl (fun _ => rfl) ?_
      exact dw_j rfl (fun lv1 hv => ih (x2 + (1 : Int32)) q1 lv1 (hv.1 _ rfl) (hv.2.1 _ rfl) (hv.2.2.1 _ rfl))
noncomputable def d_X5_find_b37 (x0 : Nat) (x1 : Nat) (s0 : Int32) (s1 : Nat) (m : dc_M) : Option dc_M :=
  (if ¬ (Int32.toInt ((dc_wi m s1 0 s0).1 x0 0)) = 0 then (d_X5_find_l50 x0 x1 (0 : Int32) (dc_wi m s1 0 s0)) else some ((dc_wi m s1 0 s0)))
set_option maxHeartbeats 8000000 in
theorem k_X5_find_b37 {u : Nat} {N : Nat} {Φ : (Option dc_M) → Option Value → dc_M → Prop} (x0 : Nat) (x1 : Nat) (s0 : Int32) (s1 : Nat) (m : dc_M) (kR : ∀  (m : dc_M), Φ (some (m)) (none) m)  {lv : ab_L} (f0 : ab_lk lv 0 = some (.ref x0)) (f1 : ab_lk lv 1 = some (.ref x1)) : dc_pv u N ab_M_X5_find 37 lv [.int s0, .ref s1] m (Φ (d_X5_find_b37 x0 x1 s0 s1 m)) := by
  refine dc_pv.mono (dc_ok (C := C_X5_find) (S := S_X5_find) CO_X5_find 400 37 [(0, .ref x0), (1, .ref x1)] lv [.int s0, .ref s1] m (dc_sub_cons f0 (dc_sub_cons f1 (dc_sub_nil))) ?_) (Nat.le_succ N)
  unfold d_X5_find_b37
  refine dg_m (pc' := 40) (dc_wi m s1 0 s0) [] rfl (fun _ => rfl) rfl ?_
  refine dg_s (pc' := 41) [.ref x0] rfl (fun _ => rfl) rfl ?_
  refine dg_s (pc' := 44) [.int ((dc_wi m s1 0 s0).1 x0 0)] rfl (fun _ => rfl) rfl ?_
  refine dw_if (fun t => Φ t) (¬ (Int32.toInt ((dc_wi m s1 0 s0).1 x0 0)) = 0) [] 48 47 rfl (fun _ => rfl) (fun c0 => ?_) (fun c0 => ?_)
  · refine dw_g rfl ?_
    refine dg_s (pc' := 49) [.int (0 : Int32)] rfl (fun _ => rfl) rfl ?_
    refine dw_L (pc' := 50) [(2, .int (0 : Int32)), (0, .ref x0), (1, .ref x1)] [] rfl (fun _ => rfl) ?_
    exact dw_j rfl (fun lv1 hv => k_X5_find_l50 (Φ := (fun t => Φ t)) x0 x1 (fun _b => kR _b) N  (0 : Int32) (dc_wi m s1 0 s0) lv1 (hv.1 _ rfl) (hv.2.1 _ rfl) (hv.2.2.1 _ rfl))
  · refine dw_g rfl ?_
    exact dw_r (some (.inl (none, (dc_wi m s1 0 s0)))) rfl (fun _ => rfl) (kR _)
noncomputable def d_X5_find (x0 : Nat) (x1 : Nat) (m : dc_M) : Option dc_M :=
  ((d_X5_findEnds x0 x1 (dc_wi (dc_wi (dc_wi m x0 1 (0 : Int32)) x0 2 (0 : Int32)) x0 3 (0 : Int32))).bind (fun q1 => (if (Int32.toInt q1.1) = 0 then (d_X5_find_b37 x0 x1 (0 : Int32) x0 q1.2) else ((d_X5_putInOrder x0 x1 q1.2).bind (fun q2 => (if (Int32.toInt q2.1) = 0 then (d_X5_find_b37 x0 x1 (0 : Int32) x0 q2.2) else (d_X5_find_b37 x0 x1 (1 : Int32) x0 q2.2)))))))
set_option maxHeartbeats 8000000 in
theorem k_X5_find {u : Nat} {N : Nat} {Φ : (Option dc_M) → Option Value → dc_M → Prop} (x0 : Nat) (x1 : Nat) (m : dc_M) (kR : ∀  (m : dc_M), Φ (some (m)) (none) m)  {lv : ab_L} (f0 : ab_lk lv 0 = some (.ref x0)) (f1 : ab_lk lv 1 = some (.ref x1)) : dc_pv u N ab_M_X5_find 0 lv [] m (Φ (d_X5_find x0 x1 m)) := by
  refine dc_pv.mono (dc_ok (C := C_X5_find) (S := S_X5_find) CO_X5_find 400 0 [(0, .ref x0), (1, .ref x1)] lv [] m (dc_sub_cons f0 (dc_sub_cons f1 (dc_sub_nil))) ?_) (Nat.le_succ N)
  unfold d_X5_find
  refine dg_s (pc' := 1) [.ref x0] rfl (fun _ => rfl) rfl ?_
  refine dg_s (pc' := 2) [.int (0 : Int32), .ref x0] rfl (fun _ => rfl) rfl ?_
  refine dg_m (pc' := 5) (dc_wi m x0 1 (0 : Int32)) [] rfl (fun _ => rfl) rfl ?_
  refine dg_s (pc' := 6) [.ref x0] rfl (fun _ => rfl) rfl ?_
  refine dg_s (pc' := 7) [.int (0 : Int32), .ref x0] rfl (fun _ => rfl) rfl ?_
  refine dg_m (pc' := 10) (dc_wi (dc_wi m x0 1 (0 : Int32)) x0 2 (0 : Int32)) [] rfl (fun _ => rfl) rfl ?_
  refine dg_s (pc' := 11) [.ref x0] rfl (fun _ => rfl) rfl ?_
  refine dg_s (pc' := 12) [.int (0 : Int32), .ref x0] rfl (fun _ => rfl) rfl ?_
  refine dg_m (pc' := 15) (dc_wi (dc_wi (dc_wi m x0 1 (0 : Int32)) x0 2 (0 : Int32)) x0 3 (0 : Int32)) [] rfl (fun _ => rfl) rfl ?_
  refine dg_s (pc' := 16) [.ref x0] rfl (fun _ => rfl) rfl ?_
  refine dg_s (pc' := 17) [.ref x0, .ref x0] rfl (fun _ => rfl) rfl ?_
  refine dg_s (pc' := 18) [.ref x1, .ref x0, .ref x0] rfl (fun _ => rfl) rfl ?_
  refine dw_b (fun t => Φ t) (pc' := 21) (fun q1 => [.int q1.1, .ref x0]) (fun q1 => q1.2) rfl (fun _ => rfl) (fun q1 => ?_)
  refine dw_g rfl ?_
  refine dw_if (fun t => Φ t) ((Int32.toInt q1.1) = 0) [.ref x0] 36 24 rfl (fun _ => rfl) (fun c0 => ?_) (fun c0 => ?_)
  · refine dw_g rfl ?_
    refine dw_s (pc' := 37) [.int (0 : Int32), .ref x0] rfl (fun _ => rfl) ?_
    exact dw_j rfl (fun lv1 hv => k_X5_find_b37 (Φ := (fun t => Φ t)) x0 x1 (0 : Int32) x0 q1.2 (fun _b => kR _b)  (hv.1 _ rfl) (hv.2.1 _ rfl))
  · refine dw_g rfl ?_
    refine dg_s (pc' := 25) [.ref x0, .ref x0] rfl (fun _ => rfl) rfl ?_
    refine dg_s (pc' := 26) [.ref x1, .ref x0, .ref x0] rfl (fun _ => rfl) rfl ?_
    refine dw_b (fun t => Φ t) (pc' := 29) (fun q2 => [.int q2.1, .ref x0]) (fun q2 => q2.2) rfl (fun _ => rfl) (fun q2 => ?_)
    refine dw_g rfl ?_
    refine dw_if (fun t => Φ t) ((Int32.toInt q2.1) = 0) [.ref x0] 36 32 rfl (fun _ => rfl) (fun c1 => ?_) (fun c1 => ?_)
    · refine dw_g rfl ?_
      refine dw_s (pc' := 37) [.int (0 : Int32), .ref x0] rfl (fun _ => rfl) ?_
      exact dw_j rfl (fun lv1 hv => k_X5_find_b37 (Φ := (fun t => Φ t)) x0 x1 (0 : Int32) x0 q2.2 (fun _b => kR _b)  (hv.1 _ rfl) (hv.2.1 _ rfl))
    · refine dw_g rfl ?_
      refine dg_s (pc' := 33) [.int (1 : Int32), .ref x0] rfl (fun _ => rfl) rfl ?_
      refine dw_s (pc' := 37) [.int (1 : Int32), .ref x0] rfl (fun _ => rfl) ?_
      exact dw_j rfl (fun lv1 hv => k_X5_find_b37 (Φ := (fun t => Φ t)) x0 x1 (1 : Int32) x0 q2.2 (fun _b => kR _b)  (hv.1 _ rfl) (hv.2.1 _ rfl))
noncomputable def H_X5_find : dc_H := fun As m k => match As with
  | [.ref x0, .ref x1] => (d_X5_find x0 x1 m).bind (fun q => k (none) q)
  | _ => dc_kz
theorem H_X5_find_ok {u : Nat} : dc_cok u 63 H_X5_find := fun M' hG N As m k P hz hP => by
  obtain rfl : ab_M_X5_find = M' := Option.some.inj hG
  unfold H_X5_find at hP
  split at hP
  · rename_i x0 x1
    exact dc_pv.imp (k_X5_find (Φ := fun (t : Option dc_M) r m' => P (t.bind (fun q => k (none) q)) → P (k r m')) x0 x1 m (fun _ h => h) rfl rfl) (fun r m' h => h hP)
  · exact absurd hP hz
noncomputable def C_X9_findRings : List (Nat × dc_H) := [(63, H_X5_find)]
theorem CO_X9_findRings {u : Nat} : dc_CO u C_X9_findRings := dc_CO_cons H_X5_find_ok (dc_CO_nil)
def S_X9_findRings : List (Nat × List Nat) := []
noncomputable def d_X9_findRings (x0 : Nat) (m : dc_M) : Option dc_M :=
  (if ¬ (Int32.toInt (m.1 x0 14)) = 0 then some (m) else ((d_X5_find (x0 + 29) (m.2.2.1 x0 7) m).bind (fun q1 => some ((dc_wi q1 x0 14 (1 : Int32))))))
set_option maxHeartbeats 8000000 in
theorem k_X9_findRings {u : Nat} {N : Nat} {Φ : (Option dc_M) → Option Value → dc_M → Prop} (x0 : Nat) (m : dc_M) (kR : ∀  (m : dc_M), Φ (some (m)) (none) m)  {lv : ab_L} (f0 : ab_lk lv 0 = some (.ref x0)) : dc_pv u N ab_M_X9_findRings 0 lv [] m (Φ (d_X9_findRings x0 m)) := by
  refine dc_pv.mono (dc_ok (C := C_X9_findRings) (S := S_X9_findRings) CO_X9_findRings 400 0 [(0, .ref x0)] lv [] m (dc_sub_cons f0 (dc_sub_nil)) ?_) (Nat.le_succ N)
  unfold d_X9_findRings
  refine dg_s (pc' := 1) [.ref x0] rfl (fun _ => rfl) rfl ?_
  refine dg_s (pc' := 4) [.int (m.1 x0 14)] rfl (fun _ => rfl) rfl ?_
  refine dw_if (fun t => Φ t) (¬ (Int32.toInt (m.1 x0 14)) = 0) [] 23 7 rfl (fun _ => rfl) (fun c0 => ?_) (fun c0 => ?_)
  · refine dw_g rfl ?_
    exact dw_r (some (.inl (none, m))) rfl (fun _ => rfl) (kR _)
  · refine dw_g rfl ?_
    refine dg_s (pc' := 8) [.ref x0] rfl (fun _ => rfl) rfl ?_
    refine dg_s (pc' := 11) [.ref (x0 + 29)] rfl (fun _ => rfl) rfl ?_
    refine dg_s (pc' := 12) [.ref x0, .ref (x0 + 29)] rfl (fun _ => rfl) rfl ?_
    refine dg_s (pc' := 15) [.ref (m.2.2.1 x0 7), .ref (x0 + 29)] rfl (fun _ => rfl) rfl ?_
    refine dw_b (fun t => Φ t) (pc' := 18) (fun q1 => []) (fun q1 => q1) rfl (fun _ => rfl) (fun q1 => ?_)
    refine dw_g rfl ?_
    refine dg_s (pc' := 19) [.ref x0] rfl (fun _ => rfl) rfl ?_
    refine dg_s (pc' := 20) [.int (1 : Int32), .ref x0] rfl (fun _ => rfl) rfl ?_
    refine dg_m (pc' := 23) (dc_wi q1 x0 14 (1 : Int32)) [] rfl (fun _ => rfl) rfl ?_
    exact dw_r (some (.inl (none, (dc_wi q1 x0 14 (1 : Int32))))) rfl (fun _ => rfl) (kR _)
noncomputable def H_X9_findRings : dc_H := fun As m k => match As with
  | [.ref x0] => (d_X9_findRings x0 m).bind (fun q => k (none) q)
  | _ => dc_kz
theorem H_X9_findRings_ok {u : Nat} : dc_cok u 139 H_X9_findRings := fun M' hG N As m k P hz hP => by
  obtain rfl : ab_M_X9_findRings = M' := Option.some.inj hG
  unfold H_X9_findRings at hP
  split at hP
  · rename_i x0
    exact dc_pv.imp (k_X9_findRings (Φ := fun (t : Option dc_M) r m' => P (t.bind (fun q => k (none) q)) → P (k r m')) x0 m (fun _ h => h) rfl) (fun r m' h => h hP)
  · exact absurd hP hz
noncomputable def C_X9_beat : List (Nat × dc_H) := [(139, H_X9_findRings)]
theorem CO_X9_beat {u : Nat} : dc_CO u C_X9_beat := dc_CO_cons H_X9_findRings_ok (dc_CO_nil)
def S_X9_beat : List (Nat × List Nat) := []
noncomputable def d_X9_beat (x0 : Nat) (x1 : Int32) (m : dc_M) : Option (Int32 × dc_M) :=
  (if (Int32.toInt x1) < 0 then some (((-1 : Int32), m)) else (if (Int32.toInt x1) ≤ 2 then ((d_X9_findRings x0 m).bind (fun q1 => (if ¬ (Int32.toInt (q1.1 (x0 + 29) 0)) = 0 then (if ¬ (Int32.toInt (q1.1 (x0 + 29) 2)) = 0 then (if ¬ (Int32.toInt x1) = 0 then (if ¬ (Int32.toInt x1) = 1 then some (((q1.1 (x0 + 29) 3), q1)) else some (((q1.1 (x0 + 29) 2), q1))) else some (((q1.1 (x0 + 29) 1), q1))) else some (((-4 : Int32), q1))) else some (((-2 : Int32), q1))))) else some (((-1 : Int32), m))))
set_option maxHeartbeats 8000000 in
theorem k_X9_beat {u : Nat} {N : Nat} {Φ : (Option (Int32 × dc_M)) → Option Value → dc_M → Prop} (x0 : Nat) (x1 : Int32) (m : dc_M) (kR : ∀ (v : Int32) (m : dc_M), Φ (some ((v, m))) (some (.int v)) m)  {lv : ab_L} (f0 : ab_lk lv 0 = some (.ref x0)) (f1 : ab_lk lv 1 = some (.int x1)) : dc_pv u N ab_M_X9_beat 0 lv [] m (Φ (d_X9_beat x0 x1 m)) := by
  refine dc_pv.mono (dc_ok (C := C_X9_beat) (S := S_X9_beat) CO_X9_beat 400 0 [(0, .ref x0), (1, .int x1)] lv [] m (dc_sub_cons f0 (dc_sub_cons f1 (dc_sub_nil))) ?_) (Nat.le_succ N)
  unfold d_X9_beat
  refine dg_s (pc' := 1) [.int x1] rfl (fun _ => rfl) rfl ?_
  refine dw_if (fun t => Φ t) ((Int32.toInt x1) < 0) [] 9 4 rfl (fun _ => rfl) (fun c0 => ?_) (fun c0 => ?_)
  · refine dw_g rfl ?_
    refine dg_s (pc' := 10) [.int (-1 : Int32)] rfl (fun _ => rfl) rfl ?_
    exact dw_r (some (.inl (some (.int (-1 : Int32)), m))) rfl (fun _ => rfl) (kR _ _)
  · refine dw_g rfl ?_
    refine dg_s (pc' := 5) [.int x1] rfl (fun _ => rfl) rfl ?_
    refine dg_s (pc' := 6) [.int (2 : Int32), .int x1] rfl (fun _ => rfl) rfl ?_
    refine dw_if (fun t => Φ t) ((Int32.toInt x1) ≤ 2) [] 11 9 rfl (fun _ => rfl) (fun c1 => ?_) (fun c1 => ?_)
    · refine dw_g rfl ?_
      refine dg_s (pc' := 12) [.ref x0] rfl (fun _ => rfl) rfl ?_
      refine dw_b (fun t => Φ t) (pc' := 15) (fun q1 => []) (fun q1 => q1) rfl (fun _ => rfl) (fun q1 => ?_)
      refine dw_g rfl ?_
      refine dg_s (pc' := 16) [.ref x0] rfl (fun _ => rfl) rfl ?_
      refine dg_s (pc' := 19) [.ref (x0 + 29)] rfl (fun _ => rfl) rfl ?_
      refine dg_s (pc' := 22) [.int (q1.1 (x0 + 29) 0)] rfl (fun _ => rfl) rfl ?_
      refine dw_if (fun t => Φ t) (¬ (Int32.toInt (q1.1 (x0 + 29) 0)) = 0) [] 28 25 rfl (fun _ => rfl) (fun c2 => ?_) (fun c2 => ?_)
      · refine dw_g rfl ?_
        refine dg_s (pc' := 29) [.ref x0] rfl (fun _ => rfl) rfl ?_
        refine dg_s (pc' := 32) [.ref (x0 + 29)] rfl (fun _ => rfl) rfl ?_
        refine dg_s (pc' := 35) [.int (q1.1 (x0 + 29) 2)] rfl (fun _ => rfl) rfl ?_
        refine dw_if (fun t => Φ t) (¬ (Int32.toInt (q1.1 (x0 + 29) 2)) = 0) [] 41 38 rfl (fun _ => rfl) (fun c3 => ?_) (fun c3 => ?_)
        · refine dw_g rfl ?_
          refine dg_s (pc' := 42) [.int x1] rfl (fun _ => rfl) rfl ?_
          refine dw_if (fun t => Φ t) (¬ (Int32.toInt x1) = 0) [] 55 45 rfl (fun _ => rfl) (fun c4 => ?_) (fun c4 => ?_)
          · refine dw_g rfl ?_
            refine dg_s (pc' := 56) [.int x1] rfl (fun _ => rfl) rfl ?_
            refine dg_s (pc' := 57) [.int (1 : Int32), .int x1] rfl (fun _ => rfl) rfl ?_
            refine dw_if (fun t => Φ t) (¬ (Int32.toInt x1) = 1) [] 70 60 rfl (fun _ => rfl) (fun c5 => ?_) (fun c5 => ?_)
            · refine dw_g rfl ?_
              refine dg_s (pc' := 71) [.ref x0] rfl (fun _ => rfl) rfl ?_
              refine dg_s (pc' := 74) [.ref (x0 + 29)] rfl (fun _ => rfl) rfl ?_
              refine dg_s (pc' := 77) [.int (q1.1 (x0 + 29) 3)] rfl (fun _ => rfl) rfl ?_
              exact dw_r (some (.inl (some (.int (q1.1 (x0 + 29) 3)), q1))) rfl (fun _ => rfl) (kR _ _)
            · refine dw_g rfl ?_
              refine dg_s (pc' := 61) [.ref x0] rfl (fun _ => rfl) rfl ?_
              refine dg_s (pc' := 64) [.ref (x0 + 29)] rfl (fun _ => rfl) rfl ?_
              refine dg_s (pc' := 67) [.int (q1.1 (x0 + 29) 2)] rfl (fun _ => rfl) rfl ?_
              refine dg_s (pc' := 77) [.int (q1.1 (x0 + 29) 2)] rfl (fun _ => rfl) rfl ?_
              exact dw_r (some (.inl (some (.int (q1.1 (x0 + 29) 2)), q1))) rfl (fun _ => rfl) (kR _ _)
          · refine dw_g rfl ?_
            refine dg_s (pc' := 46) [.ref x0] rfl (fun _ => rfl) rfl ?_
            refine dg_s (pc' := 49) [.ref (x0 + 29)] rfl (fun _ => rfl) rfl ?_
            refine dg_s (pc' := 52) [.int (q1.1 (x0 + 29) 1)] rfl (fun _ => rfl) rfl ?_
            refine dg_s (pc' := 77) [.int (q1.1 (x0 + 29) 1)] rfl (fun _ => rfl) rfl ?_
            exact dw_r (some (.inl (some (.int (q1.1 (x0 + 29) 1)), q1))) rfl (fun _ => rfl) (kR _ _)
        · refine dw_g rfl ?_
          refine dg_s (pc' := 40) [.int (-4 : Int32)] rfl (fun _ => rfl) rfl ?_
          exact dw_r (some (.inl (some (.int (-4 : Int32)), q1))) rfl (fun _ => rfl) (kR _ _)
      · refine dw_g rfl ?_
        refine dg_s (pc' := 27) [.int (-2 : Int32)] rfl (fun _ => rfl) rfl ?_
        exact dw_r (some (.inl (some (.int (-2 : Int32)), q1))) rfl (fun _ => rfl) (kR _ _)
    · refine dw_g rfl ?_
      refine dg_s (pc' := 10) [.int (-1 : Int32)] rfl (fun _ => rfl) rfl ?_
      exact dw_r (some (.inl (some (.int (-1 : Int32)), m))) rfl (fun _ => rfl) (kR _ _)
noncomputable def H_X9_beat : dc_H := fun As m k => match As with
  | [.ref x0, .int x1] => (d_X9_beat x0 x1 m).bind (fun q => k (some (.int q.1)) q.2)
  | _ => dc_kz
theorem H_X9_beat_ok {u : Nat} : dc_cok u 122 H_X9_beat := fun M' hG N As m k P hz hP => by
  obtain rfl : ab_M_X9_beat = M' := Option.some.inj hG
  unfold H_X9_beat at hP
  split at hP
  · rename_i x0 x1
    exact dc_pv.imp (k_X9_beat (Φ := fun (t : Option (Int32 × dc_M)) r m' => P (t.bind (fun q => k (some (.int q.1)) q.2)) → P (k r m')) x0 x1 m (fun _ _ h => h) rfl rfl) (fun r m' h => h hP)
  · exact absurd hP hz
def C_X10_divisor : List (Nat × dc_H) := []
theorem CO_X10_divisor {u : Nat} : dc_CO u C_X10_divisor := dc_CO_nil
def S_X10_divisor : List (Nat × List Nat) := [(4, [2, 3])]
noncomputable def d_X10_divisor_l4b  (x2 : Int32) (x3 : Int32) (m : dc_M) : Option ((Int32 × Int32) ⊕ Int32) :=
  (if (Int32.toInt x3) = 0 then some (Sum.inr (x2)) else some (Sum.inl (x3, (x2 - x2 / x3 * x3))))
noncomputable def d_X10_divisor_l4s  (m : dc_M) : (Int32 × Int32) → Option ((Int32 × Int32) ⊕ Int32) := fun s => d_X10_divisor_l4b  s.1 s.2 m
noncomputable def d_X10_divisor_l4  (x2 : Int32) (x3 : Int32) (m : dc_M) : Option Int32 := dc_lp (d_X10_divisor_l4s  m) (x2, x3)
set_option maxHeartbeats 8000000 in
theorem k_X10_divisor_l4 {u : Nat} {Φ : (Option Int32) → Option Value → dc_M → Prop}  (m : dc_M) (kR : ∀ (v : Int32), Φ (some (v)) (some (.int v)) m) : ∀ (N : Nat), ∀ (x2 : Int32) (x3 : Int32) (lv : ab_L), ab_lk lv 2 = some (.int x2) → ab_lk lv 3 = some (.int x3) → dc_pv u N ab_M_X10_divisor 4 lv [] m (Φ (d_X10_divisor_l4  x2 x3 m)) := by
  intro N
  induction N with
  | zero => intros; exact dc_pv_zero
  | succ N ih =>
    intro x2 x3 lv f2 f3
    refine dc_ok (C := C_X10_divisor) (S := S_X10_divisor) CO_X10_divisor 400 4 [(2, .int x2), (3, .int x3)] lv [] m (dc_sub_cons f2 (dc_sub_cons f3 (dc_sub_nil))) ?_
    unfold d_X10_divisor_l4
    rw [dc_lp_eq]
    show (fun t x => dc_lf u N ab_M_X10_divisor (Φ (Option.bind t (dc_bk (d_X10_divisor_l4s  m)))) x) (d_X10_divisor_l4b  x2 x3 m) _
    dsimp only
    unfold d_X10_divisor_l4b
    refine dg_s (pc' := 5) [.int x3] rfl (fun _ => rfl) rfl ?_
    refine dw_if (fun t => Φ (Option.bind t (dc_bk (d_X10_divisor_l4s  m)))) ((Int32.toInt x3) = 0) [] 21 8 rfl (fun _ => rfl) (fun c0 => ?_) (fun c0 => ?_)
    · refine dw_g rfl ?_
      refine dg_s (pc' := 22) [.int x2] rfl (fun _ => rfl) rfl ?_
      exact dw_r (some (.inl (some (.int x2), m))) rfl (fun _ => rfl) (kR _)
    · refine dw_g rfl ?_
      refine dg_s (pc' := 9) [.int x2] rfl (fun _ => rfl) rfl ?_
      refine dg_s (pc' := 10) [.int x3, .int x2] rfl (fun _ => rfl) rfl ?_
      refine dg_s (pc' := 11) [.int (x2 - x2 / x3 * x3)] rfl (fun _ => rfl) rfl ?_
      refine dg_L (pc' := 13) [(4, .int (x2 - x2 / x3 * x3)), (2, .int x2), (3, .int x3)] [] rfl (fun _ => rfl) rfl ?_
      refine dg_s (pc' := 14) [.int x3] rfl (fun _ => rfl) rfl ?_
      refine dg_L (pc' := 15) [(2, .int x3), (4, .int (x2 - x2 / x3 * x3)), (3, .int x3)] [] rfl (fun _ => rfl) rfl ?_
      refine dg_s (pc' := 17) [.int (x2 - x2 / x3 * x3)] rfl (fun _ => rfl) rfl ?_
      refine dg_L (pc' := 18) [(3, .int (x2 - x2 / x3 * x3)), (2, .int x3), (4, .int (x2 - x2 / x3 * x3))] [] rfl (fun _ => rfl) rfl ?_
      refine dw_s (pc' := 4) [] rfl (fun _ => rfl) ?_
      exact dw_j rfl (fun lv1 hv => ih x3 (x2 - x2 / x3 * x3) lv1 (hv.1 _ rfl) (hv.2.1 _ rfl))
noncomputable def d_X10_divisor (x0 : Int32) (x1 : Int32) (m : dc_M) : Option Int32 :=
  (d_X10_divisor_l4 x0 x1 m)
set_option maxHeartbeats 8000000 in
theorem k_X10_divisor {u : Nat} {N : Nat} {Φ : (Option Int32) → Option Value → dc_M → Prop} (x0 : Int32) (x1 : Int32) (m : dc_M) (kR : ∀ (v : Int32), Φ (some (v)) (some (.int v)) m)  {lv : ab_L} (f0 : ab_lk lv 0 = some (.int x0)) (f1 : ab_lk lv 1 = some (.int x1)) : dc_pv u N ab_M_X10_divisor 0 lv [] m (Φ (d_X10_divisor x0 x1 m)) := by
  refine dc_pv.mono (dc_ok (C := C_X10_divisor) (S := S_X10_divisor) CO_X10_divisor 400 0 [(0, .int x0), (1, .int x1)] lv [] m (dc_sub_cons f0 (dc_sub_cons f1 (dc_sub_nil))) ?_) (Nat.le_succ N)
  unfold d_X10_divisor
  refine dg_s (pc' := 1) [.int x0] rfl (fun _ => rfl) rfl ?_
  refine dg_L (pc' := 2) [(2, .int x0), (0, .int x0), (1, .int x1)] [] rfl (fun _ => rfl) rfl ?_
  refine dg_s (pc' := 3) [.int x1] rfl (fun _ => rfl) rfl ?_
  refine dw_L (pc' := 4) [(3, .int x1), (2, .int x0), (0, .int x0), (1, .int x1)] [] rfl (fun _ => rfl) ?_
  exact dw_j rfl (fun lv1 hv => k_X10_divisor_l4 (Φ := (fun t => Φ t))  m (fun _a  => kR _a) N  x0 x1 lv1 (hv.1 _ rfl) (hv.2.1 _ rfl))
noncomputable def H_X10_divisor : dc_H := fun As m k => match As with
  | [.int x0, .int x1] => (d_X10_divisor x0 x1 m).bind (fun q => k (some (.int q)) m)
  | _ => dc_kz
theorem H_X10_divisor_ok {u : Nat} : dc_cok u 217 H_X10_divisor := fun M' hG N As m k P hz hP => by
  obtain rfl : ab_M_X10_divisor = M' := Option.some.inj hG
  unfold H_X10_divisor at hP
  split at hP
  · rename_i x0 x1
    exact dc_pv.imp (k_X10_divisor (Φ := fun (t : Option Int32) r m' => P (t.bind (fun q => k (some (.int q)) m)) → P (k r m')) x0 x1 m (fun _  h => h) rfl rfl) (fun r m' h => h hP)
  · exact absurd hP hz
def C_X10_layWays : List (Nat × dc_H) := []
theorem CO_X10_layWays {u : Nat} : dc_CO u C_X10_layWays := dc_CO_nil
def S_X10_layWays : List (Nat × List Nat) := [(3, [0, 1, 3, 5, 6]), (30, [0, 1, 3, 5, 6]), (77, [0, 1, 3, 5, 6, 7]), (104, [0, 1, 3, 5, 6, 7, 8]), (123, [0, 1, 3, 5, 6, 7, 9]), (158, [0, 6]), (170, [0, 6, 7]), (182, [0, 6, 7, 8]), (265, [0, 6, 7, 8, 9])]
noncomputable def d_X10_layWays_b265 (x0 : Nat) (x6 : Int32) (x7 : Int32) (x8 : Int32) (x9 : Int64) (s0 : Int32) (m : dc_M) : Option ((Int32 × dc_M) ⊕ ((Int32 × dc_M) ⊕ ((Int32 × dc_M) ⊕ dc_M))) :=
  (if (Int32.toInt s0) = 0 then some (Sum.inl ((x8 + (1 : Int32)), (dc_wl m (x0 + 28) (Int32.toNatClampNeg (((16 : Int32) * x7) + x8)) (m.2.1 (x0 + 28) (Int32.toNatClampNeg (((16 : Int32) * x7) + x8)))))) else (if (Int32.toInt (lg_cmp x9 (m.2.1 (x0 + 28) (Int32.toNatClampNeg (((16 : Int32) * x7) + x8))))) ≤ 0 then some (Sum.inl ((x8 + (1 : Int32)), (dc_wl m (x0 + 28) (Int32.toNatClampNeg (((16 : Int32) * x7) + x8)) (m.2.1 (x0 + 28) (Int32.toNatClampNeg (((16 : Int32) * x7) + x8)))))) else some (Sum.inl ((x8 + (1 : Int32)), (dc_wl m (x0 + 28) (Int32.toNatClampNeg (((16 : Int32) * x7) + x8)) x9)))))
set_option maxHeartbeats 8000000 in
theorem k_X10_layWays_b265 {u : Nat} {N : Nat} {Φ : (Option ((Int32 × dc_M) ⊕ ((Int32 × dc_M) ⊕ ((Int32 × dc_M) ⊕ dc_M)))) → Option Value → dc_M → Prop} (x0 : Nat) (x6 : Int32) (x7 : Int32) (x8 : Int32) (x9 : Int64) (s0 : Int32) (m : dc_M) (kR : ∀  (m : dc_M), Φ (some (Sum.inr (Sum.inr (Sum.inr (m))))) (none) m) (k182 : ∀ (x8 : Int32) (m : dc_M) (lv : ab_L), ab_lk lv 0 = some (.ref x0) → ab_lk lv 6 = some (.int x6) → ab_lk lv 7 = some (.int x7) → ab_lk lv 8 = some (.int x8) →  dc_pv u N ab_M_X10_layWays 182 lv [] m (Φ (some (Sum.inl (x8, m))))) (k170 : ∀ (x7 : Int32) (m : dc_M) (lv : ab_L), ab_lk lv 0 = some (.ref x0) → ab_lk lv 6 = some (.int x6) → ab_lk lv 7 = some (.int x7) →  dc_pv u N ab_M_X10_layWays 170 lv [] m (Φ (some (Sum.inr (Sum.inl (x7, m)))))) (k158 : ∀ (x6 : Int32) (m : dc_M) (lv : ab_L), ab_lk lv 0 = some (.ref x0) → ab_lk lv 6 = some (.int x6) →  dc_pv u N ab_M_X10_layWays 158 lv [] m (Φ (some (Sum.inr (Sum.inr (Sum.inl (x6, m))))))) {lv : ab_L} (f0 : ab_lk lv 0 = some (.ref x0)) (f6 : ab_lk lv 6 = some (.int x6)) (f7 : ab_lk lv 7 = some (.int x7)) (f8 : ab_lk lv 8 = some (.int x8)) (f9 : ab_lk lv 9 = some (.long x9)) : dc_pv u N ab_M_X10_layWays 265 lv [.int s0] m (Φ (d_X10_layWays_b265 x0 x6 x7 x8 x9 s0 m)) := by
  refine dc_pv.mono (dc_ok (C := C_X10_layWays) (S := S_X10_layWays) CO_X10_layWays 400 265 [(0, .ref x0), (6, .int x6), (7, .int x7), (8, .int x8), (9, .long x9)] lv [.int s0] m (dc_sub_cons f0 (dc_sub_cons f6 (dc_sub_cons f7 (dc_sub_cons f8 (dc_sub_cons f9 (dc_sub_nil)))))) ?_) (Nat.le_succ N)
  unfold d_X10_layWays_b265
  refine dg_L (pc' := 267) [(11, .int s0), (0, .ref x0), (6, .int x6), (7, .int x7), (8, .int x8), (9, .long x9)] [] rfl (fun _ => rfl) rfl ?_
  refine dg_s (pc' := 268) [.ref x0] rfl (fun _ => rfl) rfl ?_
  refine dg_s (pc' := 271) [.ref (x0 + 28)] rfl (fun _ => rfl) rfl ?_
  refine dg_s (pc' := 273) [.int (16 : Int32), .ref (x0 + 28)] rfl (fun _ => rfl) rfl ?_
  refine dg_s (pc' := 275) [.int x7, .int (16 : Int32), .ref (x0 + 28)] rfl (fun _ => rfl) rfl ?_
  refine dg_s (pc' := 276) [.int ((16 : Int32) * x7), .ref (x0 + 28)] rfl (fun _ => rfl) rfl ?_
  refine dg_s (pc' := 278) [.int x8, .int ((16 : Int32) * x7), .ref (x0 + 28)] rfl (fun _ => rfl) rfl ?_
  refine dg_s (pc' := 279) [.int (((16 : Int32) * x7) + x8), .ref (x0 + 28)] rfl (fun _ => rfl) rfl ?_
  refine dg_s (pc' := 281) [.int s0, .int (((16 : Int32) * x7) + x8), .ref (x0 + 28)] rfl (fun _ => rfl) rfl ?_
  refine dw_if (fun t => Φ t) ((Int32.toInt s0) = 0) [.int (((16 : Int32) * x7) + x8), .ref (x0 + 28)] 308 284 rfl (fun _ => rfl) (fun c0 => ?_) (fun c0 => ?_)
  · refine dw_g rfl ?_
    refine dg_s (pc' := 309) [.ref x0, .int (((16 : Int32) * x7) + x8), .ref (x0 + 28)] rfl (fun _ => rfl) rfl ?_
    refine dg_s (pc' := 312) [.ref (x0 + 28), .int (((16 : Int32) * x7) + x8), .ref (x0 + 28)] rfl (fun _ => rfl) rfl ?_
    refine dg_s (pc' := 314) [.int (16 : Int32), .ref (x0 + 28), .int (((16 : Int32) * x7) + x8), .ref (x0 + 28)] rfl (fun _ => rfl) rfl ?_
    refine dg_s (pc' := 316) [.int x7, .int (16 : Int32), .ref (x0 + 28), .int (((16 : Int32) * x7) + x8), .ref (x0 + 28)] rfl (fun _ => rfl) rfl ?_
    refine dg_s (pc' := 317) [.int ((16 : Int32) * x7), .ref (x0 + 28), .int (((16 : Int32) * x7) + x8), .ref (x0 + 28)] rfl (fun _ => rfl) rfl ?_
    refine dg_s (pc' := 319) [.int x8, .int ((16 : Int32) * x7), .ref (x0 + 28), .int (((16 : Int32) * x7) + x8), .ref (x0 + 28)] rfl (fun _ => rfl) rfl ?_
    refine dg_s (pc' := 320) [.int (((16 : Int32) * x7) + x8), .ref (x0 + 28), .int (((16 : Int32) * x7) + x8), .ref (x0 + 28)] rfl (fun _ => rfl) rfl ?_
    refine dg_s (pc' := 321) [.long (m.2.1 (x0 + 28) (Int32.toNatClampNeg (((16 : Int32) * x7) + x8))), .int (((16 : Int32) * x7) + x8), .ref (x0 + 28)] rfl (fun _ => rfl) rfl ?_
    refine dg_m (pc' := 322) (dc_wl m (x0 + 28) (Int32.toNatClampNeg (((16 : Int32) * x7) + x8)) (m.2.1 (x0 + 28) (Int32.toNatClampNeg (((16 : Int32) * x7) + x8)))) [] rfl (fun _ => rfl) rfl ?_
    refine dg_L (pc' := 325) [(8, .int (x8 + (1 : Int32))), (11, .int s0), (0, .ref x0), (6, .int x6), (7, .int x7), (9, .long x9)] [] rfl (fun _ => rfl) rfl ?_
    refine dw_s (pc' := 182) [] rfl (fun _ => rfl) ?_
    exact dw_j rfl (fun lv1 hv => k182 (x8 + (1 : Int32)) (dc_wl m (x0 + 28) (Int32.toNatClampNeg (((16 : Int32) * x7) + x8)) (m.2.1 (x0 + 28) (Int32.toNatClampNeg (((16 : Int32) * x7) + x8)))) lv1 (hv.1 _ rfl) (hv.2.1 _ rfl) (hv.2.2.1 _ rfl) (hv.2.2.2.1 _ rfl))
  · refine dw_g rfl ?_
    refine dg_s (pc' := 286) [.long x9, .int (((16 : Int32) * x7) + x8), .ref (x0 + 28)] rfl (fun _ => rfl) rfl ?_
    refine dg_s (pc' := 287) [.ref x0, .long x9, .int (((16 : Int32) * x7) + x8), .ref (x0 + 28)] rfl (fun _ => rfl) rfl ?_
    refine dg_s (pc' := 290) [.ref (x0 + 28), .long x9, .int (((16 : Int32) * x7) + x8), .ref (x0 + 28)] rfl (fun _ => rfl) rfl ?_
    refine dg_s (pc' := 292) [.int (16 : Int32), .ref (x0 + 28), .long x9, .int (((16 : Int32) * x7) + x8), .ref (x0 + 28)] rfl (fun _ => rfl) rfl ?_
    refine dg_s (pc' := 294) [.int x7, .int (16 : Int32), .ref (x0 + 28), .long x9, .int (((16 : Int32) * x7) + x8), .ref (x0 + 28)] rfl (fun _ => rfl) rfl ?_
    refine dg_s (pc' := 295) [.int ((16 : Int32) * x7), .ref (x0 + 28), .long x9, .int (((16 : Int32) * x7) + x8), .ref (x0 + 28)] rfl (fun _ => rfl) rfl ?_
    refine dg_s (pc' := 297) [.int x8, .int ((16 : Int32) * x7), .ref (x0 + 28), .long x9, .int (((16 : Int32) * x7) + x8), .ref (x0 + 28)] rfl (fun _ => rfl) rfl ?_
    refine dg_s (pc' := 298) [.int (((16 : Int32) * x7) + x8), .ref (x0 + 28), .long x9, .int (((16 : Int32) * x7) + x8), .ref (x0 + 28)] rfl (fun _ => rfl) rfl ?_
    refine dg_s (pc' := 299) [.long (m.2.1 (x0 + 28) (Int32.toNatClampNeg (((16 : Int32) * x7) + x8))), .long x9, .int (((16 : Int32) * x7) + x8), .ref (x0 + 28)] rfl (fun _ => rfl) rfl ?_
    refine dg_s (pc' := 300) [.int (lg_cmp x9 (m.2.1 (x0 + 28) (Int32.toNatClampNeg (((16 : Int32) * x7) + x8)))), .int (((16 : Int32) * x7) + x8), .ref (x0 + 28)] rfl (fun _ => rfl) rfl ?_
    refine dw_if (fun t => Φ t) ((Int32.toInt (lg_cmp x9 (m.2.1 (x0 + 28) (Int32.toNatClampNeg (((16 : Int32) * x7) + x8))))) ≤ 0) [.int (((16 : Int32) * x7) + x8), .ref (x0 + 28)] 308 303 rfl (fun _ => rfl) (fun c1 => ?_) (fun c1 => ?_)
    · refine dw_g rfl ?_
      refine dg_s (pc' := 309) [.ref x0, .int (((16 : Int32) * x7) + x8), .ref (x0 + 28)] rfl (fun _ => rfl) rfl ?_
      refine dg_s (pc' := 312) [.ref (x0 + 28), .int (((16 : Int32) * x7) + x8), .ref (x0 + 28)] rfl (fun _ => rfl) rfl ?_
      refine dg_s (pc' := 314) [.int (16 : Int32), .ref (x0 + 28), .int (((16 : Int32) * x7) + x8), .ref (x0 + 28)] rfl (fun _ => rfl) rfl ?_
      refine dg_s (pc' := 316) [.int x7, .int (16 : Int32), .ref (x0 + 28), .int (((16 : Int32) * x7) + x8), .ref (x0 + 28)] rfl (fun _ => rfl) rfl ?_
      refine dg_s (pc' := 317) [.int ((16 : Int32) * x7), .ref (x0 + 28), .int (((16 : Int32) * x7) + x8), .ref (x0 + 28)] rfl (fun _ => rfl) rfl ?_
      refine dg_s (pc' := 319) [.int x8, .int ((16 : Int32) * x7), .ref (x0 + 28), .int (((16 : Int32) * x7) + x8), .ref (x0 + 28)] rfl (fun _ => rfl) rfl ?_
      refine dg_s (pc' := 320) [.int (((16 : Int32) * x7) + x8), .ref (x0 + 28), .int (((16 : Int32) * x7) + x8), .ref (x0 + 28)] rfl (fun _ => rfl) rfl ?_
      refine dg_s (pc' := 321) [.long (m.2.1 (x0 + 28) (Int32.toNatClampNeg (((16 : Int32) * x7) + x8))), .int (((16 : Int32) * x7) + x8), .ref (x0 + 28)] rfl (fun _ => rfl) rfl ?_
      refine dg_m (pc' := 322) (dc_wl m (x0 + 28) (Int32.toNatClampNeg (((16 : Int32) * x7) + x8)) (m.2.1 (x0 + 28) (Int32.toNatClampNeg (((16 : Int32) * x7) + x8)))) [] rfl (fun _ => rfl) rfl ?_
      refine dg_L (pc' := 325) [(8, .int (x8 + (1 : Int32))), (11, .int s0), (0, .ref x0), (6, .int x6), (7, .int x7), (9, .long x9)] [] rfl (fun _ => rfl) rfl ?_
      refine dw_s (pc' := 182) [] rfl (fun _ => rfl) ?_
      exact dw_j rfl (fun lv1 hv => k182 (x8 + (1 : Int32)) (dc_wl m (x0 + 28) (Int32.toNatClampNeg (((16 : Int32) * x7) + x8)) (m.2.1 (x0 + 28) (Int32.toNatClampNeg (((16 : Int32) * x7) + x8)))) lv1 (hv.1 _ rfl) (hv.2.1 _ rfl) (hv.2.2.1 _ rfl) (hv.2.2.2.1 _ rfl))
    · refine dw_g rfl ?_
      refine dg_s (pc' := 305) [.long x9, .int (((16 : Int32) * x7) + x8), .ref (x0 + 28)] rfl (fun _ => rfl) rfl ?_
      refine dg_s (pc' := 321) [.long x9, .int (((16 : Int32) * x7) + x8), .ref (x0 + 28)] rfl (fun _ => rfl) rfl ?_
      refine dg_m (pc' := 322) (dc_wl m (x0 + 28) (Int32.toNatClampNeg (((16 : Int32) * x7) + x8)) x9) [] rfl (fun _ => rfl) rfl ?_
      refine dg_L (pc' := 325) [(8, .int (x8 + (1 : Int32))), (11, .int s0), (0, .ref x0), (6, .int x6), (7, .int x7), (9, .long x9)] [] rfl (fun _ => rfl) rfl ?_
      refine dw_s (pc' := 182) [] rfl (fun _ => rfl) ?_
      exact dw_j rfl (fun lv1 hv => k182 (x8 + (1 : Int32)) (dc_wl m (x0 + 28) (Int32.toNatClampNeg (((16 : Int32) * x7) + x8)) x9) lv1 (hv.1 _ rfl) (hv.2.1 _ rfl) (hv.2.2.1 _ rfl) (hv.2.2.2.1 _ rfl))
noncomputable def d_X10_layWays_l182b (x0 : Nat) (x6 : Int32) (x7 : Int32) (x8 : Int32) (m : dc_M) : Option ((Int32 × dc_M) ⊕ ((Int32 × dc_M) ⊕ ((Int32 × dc_M) ⊕ dc_M))) :=
  (if (Int32.toInt (m.1 x0 3)) ≤ (Int32.toInt x8) then some (Sum.inr (Sum.inl ((x7 + (1 : Int32)), m))) else (if (Int32.toInt (lg_cmp (m.2.1 (x0 + 28) (Int32.toNatClampNeg (((16 : Int32) * x7) + x6))) (-500000000000 : Int64))) ≤ 0 then (d_X10_layWays_b265 x0 x6 x7 x8 ((m.2.1 (x0 + 28) (Int32.toNatClampNeg (((16 : Int32) * x7) + x6))) + (m.2.1 (x0 + 28) (Int32.toNatClampNeg (((16 : Int32) * x6) + x8)))) (0 : Int32) m) else (if (Int32.toInt (lg_cmp (m.2.1 (x0 + 28) (Int32.toNatClampNeg (((16 : Int32) * x6) + x8))) (-500000000000 : Int64))) ≤ 0 then (d_X10_layWays_b265 x0 x6 x7 x8 ((m.2.1 (x0 + 28) (Int32.toNatClampNeg (((16 : Int32) * x7) + x6))) + (m.2.1 (x0 + 28) (Int32.toNatClampNeg (((16 : Int32) * x6) + x8)))) (0 : Int32) m) else (d_X10_layWays_b265 x0 x6 x7 x8 ((m.2.1 (x0 + 28) (Int32.toNatClampNeg (((16 : Int32) * x7) + x6))) + (m.2.1 (x0 + 28) (Int32.toNatClampNeg (((16 : Int32) * x6) + x8)))) (1 : Int32) m))))
noncomputable def d_X10_layWays_l182s (x0 : Nat) (x6 : Int32) (x7 : Int32) : (Int32 × dc_M) → Option ((Int32 × dc_M) ⊕ ((Int32 × dc_M) ⊕ ((Int32 × dc_M) ⊕ dc_M))) := fun s => d_X10_layWays_l182b x0 x6 x7 s.1 s.2
noncomputable def d_X10_layWays_l182 (x0 : Nat) (x6 : Int32) (x7 : Int32) (x8 : Int32) (m : dc_M) : Option ((Int32 × dc_M) ⊕ ((Int32 × dc_M) ⊕ dc_M)) := dc_lp (d_X10_layWays_l182s x0 x6 x7) (x8, m)
set_option maxHeartbeats 8000000 in
theorem k_X10_layWays_l182 {u : Nat} {Φ : (Option ((Int32 × dc_M) ⊕ ((Int32 × dc_M) ⊕ dc_M))) → Option Value → dc_M → Prop} (x0 : Nat) (x6 : Int32) (x7 : Int32) (kR : ∀  (m : dc_M), Φ (some (Sum.inr (Sum.inr (m)))) (none) m) : ∀ (N : Nat), (∀ (x7 : Int32) (m : dc_M) (lv : ab_L), ab_lk lv 0 = some (.ref x0) → ab_lk lv 6 = some (.int x6) → ab_lk lv 7 = some (.int x7) →  dc_pv u N ab_M_X10_layWays 170 lv [] m (Φ (some (Sum.inl (x7, m))))) → (∀ (x6 : Int32) (m : dc_M) (lv : ab_L), ab_lk lv 0 = some (.ref x0) → ab_lk lv 6 = some (.int x6) →  dc_pv u N ab_M_X10_layWays 158 lv [] m (Φ (some (Sum.inr (Sum.inl (x6, m)))))) → ∀ (x8 : Int32) (m : dc_M) (lv : ab_L), ab_lk lv 0 = some (.ref x0) → ab_lk lv 6 = some (.int x6) → ab_lk lv 7 = some (.int x7) → ab_lk lv 8 = some (.int x8) → dc_pv u N ab_M_X10_layWays 182 lv [] m (Φ (d_X10_layWays_l182 x0 x6 x7 x8 m)) := by
  intro N
  induction N with
  | zero => intros; exact dc_pv_zero
  | succ N ih =>
    intro k170 k158 x8 m lv f0 f6 f7 f8
    have k170 := fun a0 a1 a2 a3 a4 a5 => (k170 a0 a1 a2 a3 a4 a5).mono (Nat.le_succ N)
    have k158 := fun a0 a1 a2 a3 a4 => (k158 a0 a1 a2 a3 a4).mono (Nat.le_succ N)
    have ih := ih k170 k158
    refine dc_ok (C := C_X10_layWays) (S := S_X10_layWays) CO_X10_layWays 400 182 [(0, .ref x0), (6, .int x6), (7, .int x7), (8, .int x8)] lv [] m (dc_sub_cons f0 (dc_sub_cons f6 (dc_sub_cons f7 (dc_sub_cons f8 (dc_sub_nil))))) ?_
    unfold d_X10_layWays_l182
    rw [dc_lp_eq]
    show (fun t x => dc_lf u N ab_M_X10_layWays (Φ (Option.bind t (dc_bk (d_X10_layWays_l182s x0 x6 x7)))) x) (d_X10_layWays_l182b x0 x6 x7 x8 m) _
    dsimp only
    unfold d_X10_layWays_l182b
    refine dg_s (pc' := 184) [.int x8] rfl (fun _ => rfl) rfl ?_
    refine dg_s (pc' := 185) [.ref x0, .int x8] rfl (fun _ => rfl) rfl ?_
    refine dg_s (pc' := 188) [.int (m.1 x0 3), .int x8] rfl (fun _ => rfl) rfl ?_
    refine dw_if (fun t => Φ (Option.bind t (dc_bk (d_X10_layWays_l182s x0 x6 x7)))) ((Int32.toInt (m.1 x0 3)) ≤ (Int32.toInt x8)) [] 328 191 rfl (fun _ => rfl) (fun c0 => ?_) (fun c0 => ?_)
    · refine dw_g rfl ?_
      refine dg_L (pc' := 331) [(7, .int (x7 + (1 : Int32))), (0, .ref x0), (6, .int x6), (8, .int x8)] [] rfl (fun _ => rfl) rfl ?_
      refine dw_s (pc' := 170) [] rfl (fun _ => rfl) ?_
      exact dw_j rfl (fun lv1 hv => k170 (x7 + (1 : Int32)) m lv1 (hv.1 _ rfl) (hv.2.1 _ rfl) (hv.2.2.1 _ rfl))
    · refine dw_g rfl ?_
      refine dg_s (pc' := 192) [.ref x0] rfl (fun _ => rfl) rfl ?_
      refine dg_s (pc' := 195) [.ref (x0 + 28)] rfl (fun _ => rfl) rfl ?_
      refine dg_s (pc' := 197) [.int (16 : Int32), .ref (x0 + 28)] rfl (fun _ => rfl) rfl ?_
      refine dg_s (pc' := 199) [.int x7, .int (16 : Int32), .ref (x0 + 28)] rfl (fun _ => rfl) rfl ?_
      refine dg_s (pc' := 200) [.int ((16 : Int32) * x7), .ref (x0 + 28)] rfl (fun _ => rfl) rfl ?_
      refine dg_s (pc' := 202) [.int x6, .int ((16 : Int32) * x7), .ref (x0 + 28)] rfl (fun _ => rfl) rfl ?_
      refine dg_s (pc' := 203) [.int (((16 : Int32) * x7) + x6), .ref (x0 + 28)] rfl (fun _ => rfl) rfl ?_
      refine dg_s (pc' := 204) [.long (m.2.1 (x0 + 28) (Int32.toNatClampNeg (((16 : Int32) * x7) + x6)))] rfl (fun _ => rfl) rfl ?_
      refine dg_s (pc' := 205) [.ref x0, .long (m.2.1 (x0 + 28) (Int32.toNatClampNeg (((16 : Int32) * x7) + x6)))] rfl (fun _ => rfl) rfl ?_
      refine dg_s (pc' := 208) [.ref (x0 + 28), .long (m.2.1 (x0 + 28) (Int32.toNatClampNeg (((16 : Int32) * x7) + x6)))] rfl (fun _ => rfl) rfl ?_
      refine dg_s (pc' := 210) [.int (16 : Int32), .ref (x0 + 28), .long (m.2.1 (x0 + 28) (Int32.toNatClampNeg (((16 : Int32) * x7) + x6)))] rfl (fun _ => rfl) rfl ?_
      refine dg_s (pc' := 212) [.int x6, .int (16 : Int32), .ref (x0 + 28), .long (m.2.1 (x0 + 28) (Int32.toNatClampNeg (((16 : Int32) * x7) + x6)))] rfl (fun _ => rfl) rfl ?_
      refine dg_s (pc' := 213) [.int ((16 : Int32) * x6), .ref (x0 + 28), .long (m.2.1 (x0 + 28) (Int32.toNatClampNeg (((16 : Int32) * x7) + x6)))] rfl (fun _ => rfl) rfl ?_
      refine dg_s (pc' := 215) [.int x8, .int ((16 : Int32) * x6), .ref (x0 + 28), .long (m.2.1 (x0 + 28) (Int32.toNatClampNeg (((16 : Int32) * x7) + x6)))] rfl (fun _ => rfl) rfl ?_
      refine dg_s (pc' := 216) [.int (((16 : Int32) * x6) + x8), .ref (x0 + 28), .long (m.2.1 (x0 + 28) (Int32.toNatClampNeg (((16 : Int32) * x7) + x6)))] rfl (fun _ => rfl) rfl ?_
      refine dg_s (pc' := 217) [.long (m.2.1 (x0 + 28) (Int32.toNatClampNeg (((16 : Int32) * x6) + x8))), .long (m.2.1 (x0 + 28) (Int32.toNatClampNeg (((16 : Int32) * x7) + x6)))] rfl (fun _ => rfl) rfl ?_
      refine dg_s (pc' := 218) [.long ((m.2.1 (x0 + 28) (Int32.toNatClampNeg (((16 : Int32) * x7) + x6))) + (m.2.1 (x0 + 28) (Int32.toNatClampNeg (((16 : Int32) * x6) + x8))))] rfl (fun _ => rfl) rfl ?_
      refine dg_L (pc' := 220) [(9, .long ((m.2.1 (x0 + 28) (Int32.toNatClampNeg (((16 : Int32) * x7) + x6))) + (m.2.1 (x0 + 28) (Int32.toNatClampNeg (((16 : Int32) * x6) + x8))))), (0, .ref x0), (6, .int x6), (7, .int x7), (8, .int x8)] [] rfl (fun _ => rfl) rfl ?_
      refine dg_s (pc' := 221) [.ref x0] rfl (fun _ => rfl) rfl ?_
      refine dg_s (pc' := 224) [.ref (x0 + 28)] rfl (fun _ => rfl) rfl ?_
      refine dg_s (pc' := 226) [.int (16 : Int32), .ref (x0 + 28)] rfl (fun _ => rfl) rfl ?_
      refine dg_s (pc' := 228) [.int x7, .int (16 : Int32), .ref (x0 + 28)] rfl (fun _ => rfl) rfl ?_
      refine dg_s (pc' := 229) [.int ((16 : Int32) * x7), .ref (x0 + 28)] rfl (fun _ => rfl) rfl ?_
      refine dg_s (pc' := 231) [.int x6, .int ((16 : Int32) * x7), .ref (x0 + 28)] rfl (fun _ => rfl) rfl ?_
      refine dg_s (pc' := 232) [.int (((16 : Int32) * x7) + x6), .ref (x0 + 28)] rfl (fun _ => rfl) rfl ?_
      refine dg_s (pc' := 233) [.long (m.2.1 (x0 + 28) (Int32.toNatClampNeg (((16 : Int32) * x7) + x6)))] rfl (fun _ => rfl) rfl ?_
      refine dg_s (pc' := 236) [.long (-500000000000 : Int64), .long (m.2.1 (x0 + 28) (Int32.toNatClampNeg (((16 : Int32) * x7) + x6)))] rfl (fun _ => rfl) rfl ?_
      refine dg_s (pc' := 237) [.int (lg_cmp (m.2.1 (x0 + 28) (Int32.toNatClampNeg (((16 : Int32) * x7) + x6))) (-500000000000 : Int64))] rfl (fun _ => rfl) rfl ?_
      refine dw_if (fun t => Φ (Option.bind t (dc_bk (d_X10_layWays_l182s x0 x6 x7)))) ((Int32.toInt (lg_cmp (m.2.1 (x0 + 28) (Int32.toNatClampNeg (((16 : Int32) * x7) + x6))) (-500000000000 : Int64))) ≤ 0) [] 264 240 rfl (fun _ => rfl) (fun c1 => ?_) (fun c1 => ?_)
      · refine dw_g rfl ?_
        refine dw_s (pc' := 265) [.int (0 : Int32)] rfl (fun _ => rfl) ?_
        exact dw_j rfl (fun lv1 hv => k_X10_layWays_b265 (Φ := (fun t => Φ (Option.bind t (dc_bk (d_X10_layWays_l182s x0 x6 x7))))) x0 x6 x7 x8 ((m.2.1 (x0 + 28) (Int32.toNatClampNeg (((16 : Int32) * x7) + x6))) + (m.2.1 (x0 + 28) (Int32.toNatClampNeg (((16 : Int32) * x6) + x8)))) (0 : Int32) m (fun _b => kR _b) ih k170 k158 (hv.1 _ rfl) (hv.2.1 _ rfl) (hv.2.2.1 _ rfl) (hv.2.2.2.1 _ rfl) (hv.2.2.2.2.1 _ rfl))
      · refine dw_g rfl ?_
        refine dg_s (pc' := 241) [.ref x0] rfl (fun _ => rfl) rfl ?_
        refine dg_s (pc' := 244) [.ref (x0 + 28)] rfl (fun _ => rfl) rfl ?_
        refine dg_s (pc' := 246) [.int (16 : Int32), .ref (x0 + 28)] rfl (fun _ => rfl) rfl ?_
        refine dg_s (pc' := 248) [.int x6, .int (16 : Int32), .ref (x0 + 28)] rfl (fun _ => rfl) rfl ?_
        refine dg_s (pc' := 249) [.int ((16 : Int32) * x6), .ref (x0 + 28)] rfl (fun _ => rfl) rfl ?_
        refine dg_s (pc' := 251) [.int x8, .int ((16 : Int32) * x6), .ref (x0 + 28)] rfl (fun _ => rfl) rfl ?_
        refine dg_s (pc' := 252) [.int (((16 : Int32) * x6) + x8), .ref (x0 + 28)] rfl (fun _ => rfl) rfl ?_
        refine dg_s (pc' := 253) [.long (m.2.1 (x0 + 28) (Int32.toNatClampNeg (((16 : Int32) * x6) + x8)))] rfl (fun _ => rfl) rfl ?_
        refine dg_s (pc' := 256) [.long (-500000000000 : Int64), .long (m.2.1 (x0 + 28) (Int32.toNatClampNeg (((16 : Int32) * x6) + x8)))] rfl (fun _ => rfl) rfl ?_
        refine dg_s (pc' := 257) [.int (lg_cmp (m.2.1 (x0 + 28) (Int32.toNatClampNeg (((16 : Int32) * x6) + x8))) (-500000000000 : Int64))] rfl (fun _ => rfl) rfl ?_
        refine dw_if (fun t => Φ (Option.bind t (dc_bk (d_X10_layWays_l182s x0 x6 x7)))) ((Int32.toInt (lg_cmp (m.2.1 (x0 + 28) (Int32.toNatClampNeg (((16 : Int32) * x6) + x8))) (-500000000000 : Int64))) ≤ 0) [] 264 260 rfl (fun _ => rfl) (fun c2 => ?_) (fun c2 => ?_)
        · refine dw_g rfl ?_
          refine dw_s (pc' := 265) [.int (0 : Int32)] rfl (fun _ => rfl) ?_
          exact dw_j rfl (fun lv1 hv => k_X10_layWays_b265 (Φ := (fun t => Φ (Option.bind t (dc_bk (d_X10_layWays_l182s x0 x6 x7))))) x0 x6 x7 x8 ((m.2.1 (x0 + 28) (Int32.toNatClampNeg (((16 : Int32) * x7) + x6))) + (m.2.1 (x0 + 28) (Int32.toNatClampNeg (((16 : Int32) * x6) + x8)))) (0 : Int32) m (fun _b => kR _b) ih k170 k158 (hv.1 _ rfl) (hv.2.1 _ rfl) (hv.2.2.1 _ rfl) (hv.2.2.2.1 _ rfl) (hv.2.2.2.2.1 _ rfl))
        · refine dw_g rfl ?_
          refine dg_s (pc' := 261) [.int (1 : Int32)] rfl (fun _ => rfl) rfl ?_
          refine dw_s (pc' := 265) [.int (1 : Int32)] rfl (fun _ => rfl) ?_
          exact dw_j rfl (fun lv1 hv => k_X10_layWays_b265 (Φ := (fun t => Φ (Option.bind t (dc_bk (d_X10_layWays_l182s x0 x6 x7))))) x0 x6 x7 x8 ((m.2.1 (x0 + 28) (Int32.toNatClampNeg (((16 : Int32) * x7) + x6))) + (m.2.1 (x0 + 28) (Int32.toNatClampNeg (((16 : Int32) * x6) + x8)))) (1 : Int32) m (fun _b => kR _b) ih k170 k158 (hv.1 _ rfl) (hv.2.1 _ rfl) (hv.2.2.1 _ rfl) (hv.2.2.2.1 _ rfl) (hv.2.2.2.2.1 _ rfl))
noncomputable def d_X10_layWays_l170b (x0 : Nat) (x6 : Int32) (x7 : Int32) (m : dc_M) : Option ((Int32 × dc_M) ⊕ ((Int32 × dc_M) ⊕ dc_M)) :=
  (if (Int32.toInt (m.1 x0 3)) ≤ (Int32.toInt x7) then some (Sum.inr (Sum.inl ((x6 + (1 : Int32)), m))) else (d_X10_layWays_l182 x0 x6 x7 (0 : Int32) m))
noncomputable def d_X10_layWays_l170s (x0 : Nat) (x6 : Int32) : (Int32 × dc_M) → Option ((Int32 × dc_M) ⊕ ((Int32 × dc_M) ⊕ dc_M)) := fun s => d_X10_layWays_l170b x0 x6 s.1 s.2
noncomputable def d_X10_layWays_l170 (x0 : Nat) (x6 : Int32) (x7 : Int32) (m : dc_M) : Option ((Int32 × dc_M) ⊕ dc_M) := dc_lp (d_X10_layWays_l170s x0 x6) (x7, m)
set_option maxHeartbeats 8000000 in
theorem k_X10_layWays_l170 {u : Nat} {Φ : (Option ((Int32 × dc_M) ⊕ dc_M)) → Option Value → dc_M → Prop} (x0 : Nat) (x6 : Int32) (kR : ∀  (m : dc_M), Φ (some (Sum.inr (m))) (none) m) : ∀ (N : Nat), (∀ (x6 : Int32) (m : dc_M) (lv : ab_L), ab_lk lv 0 = some (.ref x0) → ab_lk lv 6 = some (.int x6) →  dc_pv u N ab_M_X10_layWays 158 lv [] m (Φ (some (Sum.inl (x6, m))))) → ∀ (x7 : Int32) (m : dc_M) (lv : ab_L), ab_lk lv 0 = some (.ref x0) → ab_lk lv 6 = some (.int x6) → ab_lk lv 7 = some (.int x7) → dc_pv u N ab_M_X10_layWays 170 lv [] m (Φ (d_X10_layWays_l170 x0 x6 x7 m)) := by
  intro N
  induction N with
  | zero => intros; exact dc_pv_zero
  | succ N ih =>
    intro k158 x7 m lv f0 f6 f7
    have k158 := fun a0 a1 a2 a3 a4 => (k158 a0 a1 a2 a3 a4).mono (Nat.le_succ N)
    have ih := ih k158
    refine dc_ok (C := C_X10_layWays) (S := S_X10_layWays) CO_X10_layWays 400 170 [(0, .ref x0), (6, .int x6), (7, .int x7)] lv [] m (dc_sub_cons f0 (dc_sub_cons f6 (dc_sub_cons f7 (dc_sub_nil)))) ?_
    unfold d_X10_layWays_l170
    rw [dc_lp_eq]
    show (fun t x => dc_lf u N ab_M_X10_layWays (Φ (Option.bind t (dc_bk (d_X10_layWays_l170s x0 x6)))) x) (d_X10_layWays_l170b x0 x6 x7 m) _
    dsimp only
    unfold d_X10_layWays_l170b
    refine dg_s (pc' := 172) [.int x7] rfl (fun _ => rfl) rfl ?_
    refine dg_s (pc' := 173) [.ref x0, .int x7] rfl (fun _ => rfl) rfl ?_
    refine dg_s (pc' := 176) [.int (m.1 x0 3), .int x7] rfl (fun _ => rfl) rfl ?_
    refine dw_if (fun t => Φ (Option.bind t (dc_bk (d_X10_layWays_l170s x0 x6)))) ((Int32.toInt (m.1 x0 3)) ≤ (Int32.toInt x7)) [] 334 179 rfl (fun _ => rfl) (fun c0 => ?_) (fun c0 => ?_)
    · refine dw_g rfl ?_
      refine dg_L (pc' := 337) [(6, .int (x6 + (1 : Int32))), (0, .ref x0), (7, .int x7)] [] rfl (fun _ => rfl) rfl ?_
      refine dw_s (pc' := 158) [] rfl (fun _ => rfl) ?_
      exact dw_j rfl (fun lv1 hv => k158 (x6 + (1 : Int32)) m lv1 (hv.1 _ rfl) (hv.2.1 _ rfl))
    · refine dw_g rfl ?_
      refine dg_s (pc' := 180) [.int (0 : Int32)] rfl (fun _ => rfl) rfl ?_
      refine dw_L (pc' := 182) [(8, .int (0 : Int32)), (0, .ref x0), (6, .int x6), (7, .int x7)] [] rfl (fun _ => rfl) ?_
      exact dw_j rfl (fun lv1 hv => k_X10_layWays_l182 (Φ := (fun t => Φ (Option.bind t (dc_bk (d_X10_layWays_l170s x0 x6))))) x0 x6 x7 (fun _b => kR _b) N ih k158 (0 : Int32) m lv1 (hv.1 _ rfl) (hv.2.1 _ rfl) (hv.2.2.1 _ rfl) (hv.2.2.2.1 _ rfl))
noncomputable def d_X10_layWays_l158b (x0 : Nat) (x6 : Int32) (m : dc_M) : Option ((Int32 × dc_M) ⊕ dc_M) :=
  (if (Int32.toInt (m.1 x0 3)) ≤ (Int32.toInt x6) then some (Sum.inr (m)) else (d_X10_layWays_l170 x0 x6 (0 : Int32) m))
noncomputable def d_X10_layWays_l158s (x0 : Nat) : (Int32 × dc_M) → Option ((Int32 × dc_M) ⊕ dc_M) := fun s => d_X10_layWays_l158b x0 s.1 s.2
noncomputable def d_X10_layWays_l158 (x0 : Nat) (x6 : Int32) (m : dc_M) : Option dc_M := dc_lp (d_X10_layWays_l158s x0) (x6, m)
set_option maxHeartbeats 8000000 in
theorem k_X10_layWays_l158 {u : Nat} {Φ : (Option dc_M) → Option Value → dc_M → Prop} (x0 : Nat) (kR : ∀  (m : dc_M), Φ (some (m)) (none) m) : ∀ (N : Nat), ∀ (x6 : Int32) (m : dc_M) (lv : ab_L), ab_lk lv 0 = some (.ref x0) → ab_lk lv 6 = some (.int x6) → dc_pv u N ab_M_X10_layWays 158 lv [] m (Φ (d_X10_layWays_l158 x0 x6 m)) := by
  intro N
  induction N with
  | zero => intros; exact dc_pv_zero
  | succ N ih =>
    intro x6 m lv f0 f6
    refine dc_ok (C := C_X10_layWays) (S := S_X10_layWays) CO_X10_layWays 400 158 [(0, .ref x0), (6, .int x6)] lv [] m (dc_sub_cons f0 (dc_sub_cons f6 (dc_sub_nil))) ?_
    unfold d_X10_layWays_l158
    rw [dc_lp_eq]
    show (fun t x => dc_lf u N ab_M_X10_layWays (Φ (Option.bind t (dc_bk (d_X10_layWays_l158s x0)))) x) (d_X10_layWays_l158b x0 x6 m) _
    dsimp only
    unfold d_X10_layWays_l158b
    refine dg_s (pc' := 160) [.int x6] rfl (fun _ => rfl) rfl ?_
    refine dg_s (pc' := 161) [.ref x0, .int x6] rfl (fun _ => rfl) rfl ?_
    refine dg_s (pc' := 164) [.int (m.1 x0 3), .int x6] rfl (fun _ => rfl) rfl ?_
    refine dw_if (fun t => Φ (Option.bind t (dc_bk (d_X10_layWays_l158s x0)))) ((Int32.toInt (m.1 x0 3)) ≤ (Int32.toInt x6)) [] 340 167 rfl (fun _ => rfl) (fun c0 => ?_) (fun c0 => ?_)
    · refine dw_g rfl ?_
      exact dw_r (some (.inl (none, m))) rfl (fun _ => rfl) (kR _)
    · refine dw_g rfl ?_
      refine dg_s (pc' := 168) [.int (0 : Int32)] rfl (fun _ => rfl) rfl ?_
      refine dw_L (pc' := 170) [(7, .int (0 : Int32)), (0, .ref x0), (6, .int x6)] [] rfl (fun _ => rfl) ?_
      exact dw_j rfl (fun lv1 hv => k_X10_layWays_l170 (Φ := (fun t => Φ (Option.bind t (dc_bk (d_X10_layWays_l158s x0))))) x0 x6 (fun _b => kR _b) N ih (0 : Int32) m lv1 (hv.1 _ rfl) (hv.2.1 _ rfl) (hv.2.2.1 _ rfl))
noncomputable def d_X10_layWays_b123 (x0 : Nat) (x1 : Int64) (x3 : Int64) (x5 : Int32) (x6 : Int32) (x7 : Int32) (x9 : Int64) (s0 : Int32) (s1 : Nat) (m : dc_M) : Option ((Int32 × dc_M) ⊕ dc_M) :=
  (if (Int32.toInt (lg_cmp x9 (m.2.1 (x0 + 28) (Int32.toNatClampNeg x7)))) ≤ 0 then some (Sum.inl ((x6 + (1 : Int32)), (dc_wl m s1 (Int32.toNatClampNeg s0) (m.2.1 (x0 + 28) (Int32.toNatClampNeg x7))))) else some (Sum.inl ((x6 + (1 : Int32)), (dc_wl m s1 (Int32.toNatClampNeg s0) x9))))
set_option maxHeartbeats 8000000 in
theorem k_X10_layWays_b123 {u : Nat} {N : Nat} {Φ : (Option ((Int32 × dc_M) ⊕ dc_M)) → Option Value → dc_M → Prop} (x0 : Nat) (x1 : Int64) (x3 : Int64) (x5 : Int32) (x6 : Int32) (x7 : Int32) (x9 : Int64) (s0 : Int32) (s1 : Nat) (m : dc_M) (kR : ∀  (m : dc_M), Φ (some (Sum.inr (m))) (none) m) (k30 : ∀ (x6 : Int32) (m : dc_M) (lv : ab_L), ab_lk lv 0 = some (.ref x0) → ab_lk lv 1 = some (.long x1) → ab_lk lv 3 = some (.long x3) → ab_lk lv 5 = some (.int x5) → ab_lk lv 6 = some (.int x6) →  dc_pv u N ab_M_X10_layWays 30 lv [] m (Φ (some (Sum.inl (x6, m))))) {lv : ab_L} (f0 : ab_lk lv 0 = some (.ref x0)) (f1 : ab_lk lv 1 = some (.long x1)) (f3 : ab_lk lv 3 = some (.long x3)) (f5 : ab_lk lv 5 = some (.int x5)) (f6 : ab_lk lv 6 = some (.int x6)) (f7 : ab_lk lv 7 = some (.int x7)) (f9 : ab_lk lv 9 = some (.long x9)) : dc_pv u N ab_M_X10_layWays 123 lv [.int s0, .ref s1] m (Φ (d_X10_layWays_b123 x0 x1 x3 x5 x6 x7 x9 s0 s1 m)) := by
  refine dc_pv.mono (dc_ok (C := C_X10_layWays) (S := S_X10_layWays) CO_X10_layWays 400 123 [(0, .ref x0), (1, .long x1), (3, .long x3), (5, .int x5), (6, .int x6), (7, .int x7), (9, .long x9)] lv [.int s0, .ref s1] m (dc_sub_cons f0 (dc_sub_cons f1 (dc_sub_cons f3 (dc_sub_cons f5 (dc_sub_cons f6 (dc_sub_cons f7 (dc_sub_cons f9 (dc_sub_nil)))))))) ?_) (Nat.le_succ N)
  unfold d_X10_layWays_b123
  refine dg_s (pc' := 125) [.long x9, .int s0, .ref s1] rfl (fun _ => rfl) rfl ?_
  refine dg_s (pc' := 126) [.ref x0, .long x9, .int s0, .ref s1] rfl (fun _ => rfl) rfl ?_
  refine dg_s (pc' := 129) [.ref (x0 + 28), .long x9, .int s0, .ref s1] rfl (fun _ => rfl) rfl ?_
  refine dg_s (pc' := 131) [.int x7, .ref (x0 + 28), .long x9, .int s0, .ref s1] rfl (fun _ => rfl) rfl ?_
  refine dg_s (pc' := 132) [.long (m.2.1 (x0 + 28) (Int32.toNatClampNeg x7)), .long x9, .int s0, .ref s1] rfl (fun _ => rfl) rfl ?_
  refine dg_s (pc' := 133) [.int (lg_cmp x9 (m.2.1 (x0 + 28) (Int32.toNatClampNeg x7))), .int s0, .ref s1] rfl (fun _ => rfl) rfl ?_
  refine dw_if (fun t => Φ t) ((Int32.toInt (lg_cmp x9 (m.2.1 (x0 + 28) (Int32.toNatClampNeg x7)))) ≤ 0) [.int s0, .ref s1] 141 136 rfl (fun _ => rfl) (fun c0 => ?_) (fun c0 => ?_)
  · refine dw_g rfl ?_
    refine dg_s (pc' := 142) [.ref x0, .int s0, .ref s1] rfl (fun _ => rfl) rfl ?_
    refine dg_s (pc' := 145) [.ref (x0 + 28), .int s0, .ref s1] rfl (fun _ => rfl) rfl ?_
    refine dg_s (pc' := 147) [.int x7, .ref (x0 + 28), .int s0, .ref s1] rfl (fun _ => rfl) rfl ?_
    refine dg_s (pc' := 148) [.long (m.2.1 (x0 + 28) (Int32.toNatClampNeg x7)), .int s0, .ref s1] rfl (fun _ => rfl) rfl ?_
    refine dg_m (pc' := 149) (dc_wl m s1 (Int32.toNatClampNeg s0) (m.2.1 (x0 + 28) (Int32.toNatClampNeg x7))) [] rfl (fun _ => rfl) rfl ?_
    refine dg_L (pc' := 152) [(6, .int (x6 + (1 : Int32))), (0, .ref x0), (1, .long x1), (3, .long x3), (5, .int x5), (7, .int x7), (9, .long x9)] [] rfl (fun _ => rfl) rfl ?_
    refine dw_s (pc' := 30) [] rfl (fun _ => rfl) ?_
    exact dw_j rfl (fun lv1 hv => k30 (x6 + (1 : Int32)) (dc_wl m s1 (Int32.toNatClampNeg s0) (m.2.1 (x0 + 28) (Int32.toNatClampNeg x7))) lv1 (hv.1 _ rfl) (hv.2.1 _ rfl) (hv.2.2.1 _ rfl) (hv.2.2.2.1 _ rfl) (hv.2.2.2.2.1 _ rfl))
  · refine dw_g rfl ?_
    refine dg_s (pc' := 138) [.long x9, .int s0, .ref s1] rfl (fun _ => rfl) rfl ?_
    refine dg_s (pc' := 148) [.long x9, .int s0, .ref s1] rfl (fun _ => rfl) rfl ?_
    refine dg_m (pc' := 149) (dc_wl m s1 (Int32.toNatClampNeg s0) x9) [] rfl (fun _ => rfl) rfl ?_
    refine dg_L (pc' := 152) [(6, .int (x6 + (1 : Int32))), (0, .ref x0), (1, .long x1), (3, .long x3), (5, .int x5), (7, .int x7), (9, .long x9)] [] rfl (fun _ => rfl) rfl ?_
    refine dw_s (pc' := 30) [] rfl (fun _ => rfl) ?_
    exact dw_j rfl (fun lv1 hv => k30 (x6 + (1 : Int32)) (dc_wl m s1 (Int32.toNatClampNeg s0) x9) lv1 (hv.1 _ rfl) (hv.2.1 _ rfl) (hv.2.2.1 _ rfl) (hv.2.2.2.1 _ rfl) (hv.2.2.2.2.1 _ rfl))
noncomputable def d_X10_layWays_b104 (x0 : Nat) (x1 : Int64) (x3 : Int64) (x5 : Int32) (x6 : Int32) (x7 : Int32) (x8 : Int32) (s0 : Int64) (s1 : Int64) (m : dc_M) : Option ((Int32 × dc_M) ⊕ dc_M) :=
  (if (Int32.toInt x5) = 0 then (d_X10_layWays_b123 x0 x1 x3 x5 x6 x7 (s1 - s0) x7 (x0 + 28) m) else (if ¬ (Int32.toInt x8) = 0 then some (Sum.inl ((x6 + (1 : Int32)), (dc_wl m (x0 + 28) (Int32.toNatClampNeg x7) (m.2.1 (x0 + 28) (Int32.toNatClampNeg x7))))) else (d_X10_layWays_b123 x0 x1 x3 x5 x6 x7 (s1 - s0) x7 (x0 + 28) m)))
set_option maxHeartbeats 8000000 in
theorem k_X10_layWays_b104 {u : Nat} {N : Nat} {Φ : (Option ((Int32 × dc_M) ⊕ dc_M)) → Option Value → dc_M → Prop} (x0 : Nat) (x1 : Int64) (x3 : Int64) (x5 : Int32) (x6 : Int32) (x7 : Int32) (x8 : Int32) (s0 : Int64) (s1 : Int64) (m : dc_M) (kR : ∀  (m : dc_M), Φ (some (Sum.inr (m))) (none) m) (k30 : ∀ (x6 : Int32) (m : dc_M) (lv : ab_L), ab_lk lv 0 = some (.ref x0) → ab_lk lv 1 = some (.long x1) → ab_lk lv 3 = some (.long x3) → ab_lk lv 5 = some (.int x5) → ab_lk lv 6 = some (.int x6) →  dc_pv u N ab_M_X10_layWays 30 lv [] m (Φ (some (Sum.inl (x6, m))))) {lv : ab_L} (f0 : ab_lk lv 0 = some (.ref x0)) (f1 : ab_lk lv 1 = some (.long x1)) (f3 : ab_lk lv 3 = some (.long x3)) (f5 : ab_lk lv 5 = some (.int x5)) (f6 : ab_lk lv 6 = some (.int x6)) (f7 : ab_lk lv 7 = some (.int x7)) (f8 : ab_lk lv 8 = some (.int x8)) : dc_pv u N ab_M_X10_layWays 104 lv [.long s0, .long s1] m (Φ (d_X10_layWays_b104 x0 x1 x3 x5 x6 x7 x8 s0 s1 m)) := by
  refine dc_pv.mono (dc_ok (C := C_X10_layWays) (S := S_X10_layWays) CO_X10_layWays 400 104 [(0, .ref x0), (1, .long x1), (3, .long x3), (5, .int x5), (6, .int x6), (7, .int x7), (8, .int x8)] lv [.long s0, .long s1] m (dc_sub_cons f0 (dc_sub_cons f1 (dc_sub_cons f3 (dc_sub_cons f5 (dc_sub_cons f6 (dc_sub_cons f7 (dc_sub_cons f8 (dc_sub_nil)))))))) ?_) (Nat.le_succ N)
  unfold d_X10_layWays_b104
  refine dg_s (pc' := 105) [.long (s1 - s0)] rfl (fun _ => rfl) rfl ?_
  refine dg_L (pc' := 107) [(9, .long (s1 - s0)), (0, .ref x0), (1, .long x1), (3, .long x3), (5, .int x5), (6, .int x6), (7, .int x7), (8, .int x8)] [] rfl (fun _ => rfl) rfl ?_
  refine dg_s (pc' := 108) [.ref x0] rfl (fun _ => rfl) rfl ?_
  refine dg_s (pc' := 111) [.ref (x0 + 28)] rfl (fun _ => rfl) rfl ?_
  refine dg_s (pc' := 113) [.int x7, .ref (x0 + 28)] rfl (fun _ => rfl) rfl ?_
  refine dg_s (pc' := 115) [.int x5, .int x7, .ref (x0 + 28)] rfl (fun _ => rfl) rfl ?_
  refine dw_if (fun t => Φ t) ((Int32.toInt x5) = 0) [.int x7, .ref (x0 + 28)] 123 118 rfl (fun _ => rfl) (fun c0 => ?_) (fun c0 => ?_)
  · exact dw_j rfl (fun lv1 hv => k_X10_layWays_b123 (Φ := (fun t => Φ t)) x0 x1 x3 x5 x6 x7 (s1 - s0) x7 (x0 + 28) m (fun _b => kR _b) k30 (hv.1 _ rfl) (hv.2.1 _ rfl) (hv.2.2.1 _ rfl) (hv.2.2.2.1 _ rfl) (hv.2.2.2.2.1 _ rfl) (hv.2.2.2.2.2.1 _ rfl) (hv.2.2.2.2.2.2.1 _ rfl))
  · refine dw_g rfl ?_
    refine dg_s (pc' := 120) [.int x8, .int x7, .ref (x0 + 28)] rfl (fun _ => rfl) rfl ?_
    refine dw_if (fun t => Φ t) (¬ (Int32.toInt x8) = 0) [.int x7, .ref (x0 + 28)] 141 123 rfl (fun _ => rfl) (fun c1 => ?_) (fun c1 => ?_)
    · refine dw_g rfl ?_
      refine dg_s (pc' := 142) [.ref x0, .int x7, .ref (x0 + 28)] rfl (fun _ => rfl) rfl ?_
      refine dg_s (pc' := 145) [.ref (x0 + 28), .int x7, .ref (x0 + 28)] rfl (fun _ => rfl) rfl ?_
      refine dg_s (pc' := 147) [.int x7, .ref (x0 + 28), .int x7, .ref (x0 + 28)] rfl (fun _ => rfl) rfl ?_
      refine dg_s (pc' := 148) [.long (m.2.1 (x0 + 28) (Int32.toNatClampNeg x7)), .int x7, .ref (x0 + 28)] rfl (fun _ => rfl) rfl ?_
      refine dg_m (pc' := 149) (dc_wl m (x0 + 28) (Int32.toNatClampNeg x7) (m.2.1 (x0 + 28) (Int32.toNatClampNeg x7))) [] rfl (fun _ => rfl) rfl ?_
      refine dg_L (pc' := 152) [(6, .int (x6 + (1 : Int32))), (9, .long (s1 - s0)), (0, .ref x0), (1, .long x1), (3, .long x3), (5, .int x5), (7, .int x7), (8, .int x8)] [] rfl (fun _ => rfl) rfl ?_
      refine dw_s (pc' := 30) [] rfl (fun _ => rfl) ?_
      exact dw_j rfl (fun lv1 hv => k30 (x6 + (1 : Int32)) (dc_wl m (x0 + 28) (Int32.toNatClampNeg x7) (m.2.1 (x0 + 28) (Int32.toNatClampNeg x7))) lv1 (hv.1 _ rfl) (hv.2.1 _ rfl) (hv.2.2.1 _ rfl) (hv.2.2.2.1 _ rfl) (hv.2.2.2.2.1 _ rfl))
    · exact dw_j rfl (fun lv1 hv => k_X10_layWays_b123 (Φ := (fun t => Φ t)) x0 x1 x3 x5 x6 x7 (s1 - s0) x7 (x0 + 28) m (fun _b => kR _b) k30 (hv.1 _ rfl) (hv.2.1 _ rfl) (hv.2.2.1 _ rfl) (hv.2.2.2.1 _ rfl) (hv.2.2.2.2.1 _ rfl) (hv.2.2.2.2.2.1 _ rfl) (hv.2.2.2.2.2.2.1 _ rfl))
noncomputable def d_X10_layWays_b77 (x0 : Nat) (x1 : Int64) (x3 : Int64) (x5 : Int32) (x6 : Int32) (x7 : Int32) (s0 : Int32) (m : dc_M) : Option ((Int32 × dc_M) ⊕ dc_M) :=
  (if (Int32.toInt s0) = 0 then (d_X10_layWays_b104 x0 x1 x3 x5 x6 x7 s0 (0 : Int64) ((Int32.toInt64 (m.1 (x0 + 8) (Int32.toNatClampNeg (m.1 (x0 + 29) (Int32.toNatClampNeg x6))))) * x1) m) else (d_X10_layWays_b104 x0 x1 x3 x5 x6 x7 s0 x3 ((Int32.toInt64 (m.1 (x0 + 8) (Int32.toNatClampNeg (m.1 (x0 + 29) (Int32.toNatClampNeg x6))))) * x1) m))
set_option maxHeartbeats 8000000 in
theorem k_X10_layWays_b77 {u : Nat} {N : Nat} {Φ : (Option ((Int32 × dc_M) ⊕ dc_M)) → Option Value → dc_M → Prop} (x0 : Nat) (x1 : Int64) (x3 : Int64) (x5 : Int32) (x6 : Int32) (x7 : Int32) (s0 : Int32) (m : dc_M) (kR : ∀  (m : dc_M), Φ (some (Sum.inr (m))) (none) m) (k30 : ∀ (x6 : Int32) (m : dc_M) (lv : ab_L), ab_lk lv 0 = some (.ref x0) → ab_lk lv 1 = some (.long x1) → ab_lk lv 3 = some (.long x3) → ab_lk lv 5 = some (.int x5) → ab_lk lv 6 = some (.int x6) →  dc_pv u N ab_M_X10_layWays 30 lv [] m (Φ (some (Sum.inl (x6, m))))) {lv : ab_L} (f0 : ab_lk lv 0 = some (.ref x0)) (f1 : ab_lk lv 1 = some (.long x1)) (f3 : ab_lk lv 3 = some (.long x3)) (f5 : ab_lk lv 5 = some (.int x5)) (f6 : ab_lk lv 6 = some (.int x6)) (f7 : ab_lk lv 7 = some (.int x7)) : dc_pv u N ab_M_X10_layWays 77 lv [.int s0] m (Φ (d_X10_layWays_b77 x0 x1 x3 x5 x6 x7 s0 m)) := by
  refine dc_pv.mono (dc_ok (C := C_X10_layWays) (S := S_X10_layWays) CO_X10_layWays 400 77 [(0, .ref x0), (1, .long x1), (3, .long x3), (5, .int x5), (6, .int x6), (7, .int x7)] lv [.int s0] m (dc_sub_cons f0 (dc_sub_cons f1 (dc_sub_cons f3 (dc_sub_cons f5 (dc_sub_cons f6 (dc_sub_cons f7 (dc_sub_nil))))))) ?_) (Nat.le_succ N)
  unfold d_X10_layWays_b77
  refine dg_L (pc' := 79) [(8, .int s0), (0, .ref x0), (1, .long x1), (3, .long x3), (5, .int x5), (6, .int x6), (7, .int x7)] [] rfl (fun _ => rfl) rfl ?_
  refine dg_s (pc' := 80) [.ref x0] rfl (fun _ => rfl) rfl ?_
  refine dg_s (pc' := 83) [.ref (x0 + 8)] rfl (fun _ => rfl) rfl ?_
  refine dg_s (pc' := 84) [.ref x0, .ref (x0 + 8)] rfl (fun _ => rfl) rfl ?_
  refine dg_s (pc' := 87) [.ref (x0 + 29), .ref (x0 + 8)] rfl (fun _ => rfl) rfl ?_
  refine dg_s (pc' := 89) [.int x6, .ref (x0 + 29), .ref (x0 + 8)] rfl (fun _ => rfl) rfl ?_
  refine dg_s (pc' := 90) [.int (m.1 (x0 + 29) (Int32.toNatClampNeg x6)), .ref (x0 + 8)] rfl (fun _ => rfl) rfl ?_
  refine dg_s (pc' := 91) [.int (m.1 (x0 + 8) (Int32.toNatClampNeg (m.1 (x0 + 29) (Int32.toNatClampNeg x6))))] rfl (fun _ => rfl) rfl ?_
  refine dg_s (pc' := 92) [.long (Int32.toInt64 (m.1 (x0 + 8) (Int32.toNatClampNeg (m.1 (x0 + 29) (Int32.toNatClampNeg x6)))))] rfl (fun _ => rfl) rfl ?_
  refine dg_s (pc' := 93) [.long x1, .long (Int32.toInt64 (m.1 (x0 + 8) (Int32.toNatClampNeg (m.1 (x0 + 29) (Int32.toNatClampNeg x6)))))] rfl (fun _ => rfl) rfl ?_
  refine dg_s (pc' := 94) [.long ((Int32.toInt64 (m.1 (x0 + 8) (Int32.toNatClampNeg (m.1 (x0 + 29) (Int32.toNatClampNeg x6))))) * x1)] rfl (fun _ => rfl) rfl ?_
  refine dg_s (pc' := 96) [.int s0, .long ((Int32.toInt64 (m.1 (x0 + 8) (Int32.toNatClampNeg (m.1 (x0 + 29) (Int32.toNatClampNeg x6))))) * x1)] rfl (fun _ => rfl) rfl ?_
  refine dw_if (fun t => Φ t) ((Int32.toInt s0) = 0) [.long ((Int32.toInt64 (m.1 (x0 + 8) (Int32.toNatClampNeg (m.1 (x0 + 29) (Int32.toNatClampNeg x6))))) * x1)] 103 99 rfl (fun _ => rfl) (fun c0 => ?_) (fun c0 => ?_)
  · refine dw_g rfl ?_
    refine dw_s (pc' := 104) [.long (0 : Int64), .long ((Int32.toInt64 (m.1 (x0 + 8) (Int32.toNatClampNeg (m.1 (x0 + 29) (Int32.toNatClampNeg x6))))) * x1)] rfl (fun _ => rfl) ?_
    exact dw_j rfl (fun lv1 hv => k_X10_layWays_b104 (Φ := (fun t => Φ t)) x0 x1 x3 x5 x6 x7 s0 (0 : Int64) ((Int32.toInt64 (m.1 (x0 + 8) (Int32.toNatClampNeg (m.1 (x0 + 29) (Int32.toNatClampNeg x6))))) * x1) m (fun _b => kR _b) k30 (hv.1 _ rfl) (hv.2.1 _ rfl) (hv.2.2.1 _ rfl) (hv.2.2.2.1 _ rfl) (hv.2.2.2.2.1 _ rfl) (hv.2.2.2.2.2.1 _ rfl) (hv.2.2.2.2.2.2.1 _ rfl))
  · refine dw_g rfl ?_
    refine dg_s (pc' := 100) [.long x3, .long ((Int32.toInt64 (m.1 (x0 + 8) (Int32.toNatClampNeg (m.1 (x0 + 29) (Int32.toNatClampNeg x6))))) * x1)] rfl (fun _ => rfl) rfl ?_
    refine dw_s (pc' := 104) [.long x3, .long ((Int32.toInt64 (m.1 (x0 + 8) (Int32.toNatClampNeg (m.1 (x0 + 29) (Int32.toNatClampNeg x6))))) * x1)] rfl (fun _ => rfl) ?_
    exact dw_j rfl (fun lv1 hv => k_X10_layWays_b104 (Φ := (fun t => Φ t)) x0 x1 x3 x5 x6 x7 s0 x3 ((Int32.toInt64 (m.1 (x0 + 8) (Int32.toNatClampNeg (m.1 (x0 + 29) (Int32.toNatClampNeg x6))))) * x1) m (fun _b => kR _b) k30 (hv.1 _ rfl) (hv.2.1 _ rfl) (hv.2.2.1 _ rfl) (hv.2.2.2.1 _ rfl) (hv.2.2.2.2.1 _ rfl) (hv.2.2.2.2.2.1 _ rfl) (hv.2.2.2.2.2.2.1 _ rfl))
noncomputable def d_X10_layWays_l30b (x0 : Nat) (x1 : Int64) (x3 : Int64) (x5 : Int32) (x6 : Int32) (m : dc_M) : Option ((Int32 × dc_M) ⊕ dc_M) :=
  (if (Int32.toInt (m.1 x0 10)) ≤ (Int32.toInt x6) then ((d_X10_layWays_l158 x0 (0 : Int32) m).map (fun z => Sum.inr (z))) else (if ¬ (Int32.toInt (((m.1 x0 11) >>> (x6 &&& 31)) &&& (1 : Int32))) = 1 then (d_X10_layWays_b77 x0 x1 x3 x5 x6 (((16 : Int32) * (m.1 (x0 + 29) (Int32.toNatClampNeg x6))) + (m.1 (x0 + 30) (Int32.toNatClampNeg x6))) (0 : Int32) m) else (d_X10_layWays_b77 x0 x1 x3 x5 x6 (((16 : Int32) * (m.1 (x0 + 29) (Int32.toNatClampNeg x6))) + (m.1 (x0 + 30) (Int32.toNatClampNeg x6))) (1 : Int32) m)))
noncomputable def d_X10_layWays_l30s (x0 : Nat) (x1 : Int64) (x3 : Int64) (x5 : Int32) : (Int32 × dc_M) → Option ((Int32 × dc_M) ⊕ dc_M) := fun s => d_X10_layWays_l30b x0 x1 x3 x5 s.1 s.2
noncomputable def d_X10_layWays_l30 (x0 : Nat) (x1 : Int64) (x3 : Int64) (x5 : Int32) (x6 : Int32) (m : dc_M) : Option dc_M := dc_lp (d_X10_layWays_l30s x0 x1 x3 x5) (x6, m)
set_option maxHeartbeats 8000000 in
theorem k_X10_layWays_l30 {u : Nat} {Φ : (Option dc_M) → Option Value → dc_M → Prop} (x0 : Nat) (x1 : Int64) (x3 : Int64) (x5 : Int32) (kR : ∀  (m : dc_M), Φ (some (m)) (none) m) : ∀ (N : Nat), ∀ (x6 : Int32) (m : dc_M) (lv : ab_L), ab_lk lv 0 = some (.ref x0) → ab_lk lv 1 = some (.long x1) → ab_lk lv 3 = some (.long x3) → ab_lk lv 5 = some (.int x5) → ab_lk lv 6 = some (.int x6) → dc_pv u N ab_M_X10_layWays 30 lv [] m (Φ (d_X10_layWays_l30 x0 x1 x3 x5 x6 m)) := by
  intro N
  induction N with
  | zero => intros; exact dc_pv_zero
  | succ N ih =>
    intro x6 m lv f0 f1 f3 f5 f6
    refine dc_ok (C := C_X10_layWays) (S := S_X10_layWays) CO_X10_layWays 400 30 [(0, .ref x0), (1, .long x1), (3, .long x3), (5, .int x5), (6, .int x6)] lv [] m (dc_sub_cons f0 (dc_sub_cons f1 (dc_sub_cons f3 (dc_sub_cons f5 (dc_sub_cons f6 (dc_sub_nil)))))) ?_
    unfold d_X10_layWays_l30
    rw [dc_lp_eq]
    show (fun t x => dc_lf u N ab_M_X10_layWays (Φ (Option.bind t (dc_bk (d_X10_layWays_l30s x0 x1 x3 x5)))) x) (d_X10_layWays_l30b x0 x1 x3 x5 x6 m) _
    dsimp only
    unfold d_X10_layWays_l30b
    refine dg_s (pc' := 32) [.int x6] rfl (fun _ => rfl) rfl ?_
    refine dg_s (pc' := 33) [.ref x0, .int x6] rfl (fun _ => rfl) rfl ?_
    refine dg_s (pc' := 36) [.int (m.1 x0 10), .int x6] rfl (fun _ => rfl) rfl ?_
    refine dw_if (fun t => Φ (Option.bind t (dc_bk (d_X10_layWays_l30s x0 x1 x3 x5)))) ((Int32.toInt (m.1 x0 10)) ≤ (Int32.toInt x6)) [] 155 39 rfl (fun _ => rfl) (fun c0 => ?_) (fun c0 => ?_)
    · refine dw_g rfl ?_
      refine dg_s (pc' := 156) [.int (0 : Int32)] rfl (fun _ => rfl) rfl ?_
      refine dw_L (pc' := 158) [(6, .int (0 : Int32)), (0, .ref x0), (1, .long x1), (3, .long x3), (5, .int x5)] [] rfl (fun _ => rfl) ?_
      exact dw_j rfl (fun lv1 hv => k_X10_layWays_l158 (Φ := (fun t => Φ (Option.bind (t.map (fun z => Sum.inr (z))) (dc_bk (d_X10_layWays_l30s x0 x1 x3 x5))))) x0 (fun _b => kR _b) N  (0 : Int32) m lv1 (hv.1 _ rfl) (hv.2.1 _ rfl))
    · refine dw_g rfl ?_
      refine dg_s (pc' := 41) [.int (16 : Int32)] rfl (fun _ => rfl) rfl ?_
      refine dg_s (pc' := 42) [.ref x0, .int (16 : Int32)] rfl (fun _ => rfl) rfl ?_
      refine dg_s (pc' := 45) [.ref (x0 + 29), .int (16 : Int32)] rfl (fun _ => rfl) rfl ?_
      refine dg_s (pc' := 47) [.int x6, .ref (x0 + 29), .int (16 : Int32)] rfl (fun _ => rfl) rfl ?_
      refine dg_s (pc' := 48) [.int (m.1 (x0 + 29) (Int32.toNatClampNeg x6)), .int (16 : Int32)] rfl (fun _ => rfl) rfl ?_
      refine dg_s (pc' := 49) [.int ((16 : Int32) * (m.1 (x0 + 29) (Int32.toNatClampNeg x6)))] rfl (fun _ => rfl) rfl ?_
      refine dg_s (pc' := 50) [.ref x0, .int ((16 : Int32) * (m.1 (x0 + 29) (Int32.toNatClampNeg x6)))] rfl (fun _ => rfl) rfl ?_
      refine dg_s (pc' := 53) [.ref (x0 + 30), .int ((16 : Int32) * (m.1 (x0 + 29) (Int32.toNatClampNeg x6)))] rfl (fun _ => rfl) rfl ?_
      refine dg_s (pc' := 55) [.int x6, .ref (x0 + 30), .int ((16 : Int32) * (m.1 (x0 + 29) (Int32.toNatClampNeg x6)))] rfl (fun _ => rfl) rfl ?_
      refine dg_s (pc' := 56) [.int (m.1 (x0 + 30) (Int32.toNatClampNeg x6)), .int ((16 : Int32) * (m.1 (x0 + 29) (Int32.toNatClampNeg x6)))] rfl (fun _ => rfl) rfl ?_
      refine dg_s (pc' := 57) [.int (((16 : Int32) * (m.1 (x0 + 29) (Int32.toNatClampNeg x6))) + (m.1 (x0 + 30) (Int32.toNatClampNeg x6)))] rfl (fun _ => rfl) rfl ?_
      refine dg_L (pc' := 59) [(7, .int (((16 : Int32) * (m.1 (x0 + 29) (Int32.toNatClampNeg x6))) + (m.1 (x0 + 30) (Int32.toNatClampNeg x6)))), (0, .ref x0), (1, .long x1), (3, .long x3), (5, .int x5), (6, .int x6)] [] rfl (fun _ => rfl) rfl ?_
      refine dg_s (pc' := 60) [.ref x0] rfl (fun _ => rfl) rfl ?_
      refine dg_s (pc' := 63) [.int (m.1 x0 11)] rfl (fun _ => rfl) rfl ?_
      refine dg_s (pc' := 65) [.int x6, .int (m.1 x0 11)] rfl (fun _ => rfl) rfl ?_
      refine dg_s (pc' := 66) [.int ((m.1 x0 11) >>> (x6 &&& 31))] rfl (fun _ => rfl) rfl ?_
      refine dg_s (pc' := 67) [.int (1 : Int32), .int ((m.1 x0 11) >>> (x6 &&& 31))] rfl (fun _ => rfl) rfl ?_
      refine dg_s (pc' := 68) [.int (((m.1 x0 11) >>> (x6 &&& 31)) &&& (1 : Int32))] rfl (fun _ => rfl) rfl ?_
      refine dg_s (pc' := 69) [.int (1 : Int32), .int (((m.1 x0 11) >>> (x6 &&& 31)) &&& (1 : Int32))] rfl (fun _ => rfl) rfl ?_
      refine dw_if (fun t => Φ (Option.bind t (dc_bk (d_X10_layWays_l30s x0 x1 x3 x5)))) (¬ (Int32.toInt (((m.1 x0 11) >>> (x6 &&& 31)) &&& (1 : Int32))) = 1) [] 76 72 rfl (fun _ => rfl) (fun c1 => ?_) (fun c1 => ?_)
      · refine dw_g rfl ?_
        refine dw_s (pc' := 77) [.int (0 : Int32)] rfl (fun _ => rfl) ?_
        exact dw_j rfl (fun lv1 hv => k_X10_layWays_b77 (Φ := (fun t => Φ (Option.bind t (dc_bk (d_X10_layWays_l30s x0 x1 x3 x5))))) x0 x1 x3 x5 x6 (((16 : Int32) * (m.1 (x0 + 29) (Int32.toNatClampNeg x6))) + (m.1 (x0 + 30) (Int32.toNatClampNeg x6))) (0 : Int32) m (fun _b => kR _b) ih (hv.1 _ rfl) (hv.2.1 _ rfl) (hv.2.2.1 _ rfl) (hv.2.2.2.1 _ rfl) (hv.2.2.2.2.1 _ rfl) (hv.2.2.2.2.2.1 _ rfl))
      · refine dw_g rfl ?_
        refine dg_s (pc' := 73) [.int (1 : Int32)] rfl (fun _ => rfl) rfl ?_
        refine dw_s (pc' := 77) [.int (1 : Int32)] rfl (fun _ => rfl) ?_
        exact dw_j rfl (fun lv1 hv => k_X10_layWays_b77 (Φ := (fun t => Φ (Option.bind t (dc_bk (d_X10_layWays_l30s x0 x1 x3 x5))))) x0 x1 x3 x5 x6 (((16 : Int32) * (m.1 (x0 + 29) (Int32.toNatClampNeg x6))) + (m.1 (x0 + 30) (Int32.toNatClampNeg x6))) (1 : Int32) m (fun _b => kR _b) ih (hv.1 _ rfl) (hv.2.1 _ rfl) (hv.2.2.1 _ rfl) (hv.2.2.2.1 _ rfl) (hv.2.2.2.2.1 _ rfl) (hv.2.2.2.2.2.1 _ rfl))
noncomputable def d_X10_layWays_l3b (x0 : Nat) (x1 : Int64) (x3 : Int64) (x5 : Int32) (x6 : Int32) (m : dc_M) : Option ((Int32 × dc_M) ⊕ dc_M) :=
  (if 256 ≤ (Int32.toInt x6) then ((d_X10_layWays_l30 x0 x1 x3 x5 (0 : Int32) m).map (fun z => Sum.inr (z))) else some (Sum.inl ((x6 + (1 : Int32)), (dc_wl m (x0 + 28) (Int32.toNatClampNeg x6) (-1000000000000 : Int64)))))
noncomputable def d_X10_layWays_l3s (x0 : Nat) (x1 : Int64) (x3 : Int64) (x5 : Int32) : (Int32 × dc_M) → Option ((Int32 × dc_M) ⊕ dc_M) := fun s => d_X10_layWays_l3b x0 x1 x3 x5 s.1 s.2
noncomputable def d_X10_layWays_l3 (x0 : Nat) (x1 : Int64) (x3 : Int64) (x5 : Int32) (x6 : Int32) (m : dc_M) : Option dc_M := dc_lp (d_X10_layWays_l3s x0 x1 x3 x5) (x6, m)
set_option maxHeartbeats 8000000 in
theorem k_X10_layWays_l3 {u : Nat} {Φ : (Option dc_M) → Option Value → dc_M → Prop} (x0 : Nat) (x1 : Int64) (x3 : Int64) (x5 : Int32) (kR : ∀  (m : dc_M), Φ (some (m)) (none) m) : ∀ (N : Nat), ∀ (x6 : Int32) (m : dc_M) (lv : ab_L), ab_lk lv 0 = some (.ref x0) → ab_lk lv 1 = some (.long x1) → ab_lk lv 3 = some (.long x3) → ab_lk lv 5 = some (.int x5) → ab_lk lv 6 = some (.int x6) → dc_pv u N ab_M_X10_layWays 3 lv [] m (Φ (d_X10_layWays_l3 x0 x1 x3 x5 x6 m)) := by
  intro N
  induction N with
  | zero => intros; exact dc_pv_zero
  | succ N ih =>
    intro x6 m lv f0 f1 f3 f5 f6
    refine dc_ok (C := C_X10_layWays) (S := S_X10_layWays) CO_X10_layWays 400 3 [(0, .ref x0), (1, .long x1), (3, .long x3), (5, .int x5), (6, .int x6)] lv [] m (dc_sub_cons f0 (dc_sub_cons f1 (dc_sub_cons f3 (dc_sub_cons f5 (dc_sub_cons f6 (dc_sub_nil)))))) ?_
    unfold d_X10_layWays_l3
    rw [dc_lp_eq]
    show (fun t x => dc_lf u N ab_M_X10_layWays (Φ (Option.bind t (dc_bk (d_X10_layWays_l3s x0 x1 x3 x5)))) x) (d_X10_layWays_l3b x0 x1 x3 x5 x6 m) _
    dsimp only
    unfold d_X10_layWays_l3b
    refine dg_s (pc' := 5) [.int x6] rfl (fun _ => rfl) rfl ?_
    refine dg_s (pc' := 8) [.int (256 : Int32), .int x6] rfl (fun _ => rfl) rfl ?_
    refine dw_if (fun t => Φ (Option.bind t (dc_bk (d_X10_layWays_l3s x0 x1 x3 x5)))) (256 ≤ (Int32.toInt x6)) [] 27 11 rfl (fun _ => rfl) (fun c0 => ?_) (fun c0 => ?_)
    · refine dw_g rfl ?_
      refine dg_s (pc' := 28) [.int (0 : Int32)] rfl (fun _ => rfl) rfl ?_
      refine dw_L (pc' := 30) [(6, .int (0 : Int32)), (0, .ref x0), (1, .long x1), (3, .long x3), (5, .int x5)] [] rfl (fun _ => rfl) ?_
      exact dw_j rfl (fun lv1 hv => k_X10_layWays_l30 (Φ := (fun t => Φ (Option.bind (t.map (fun z => Sum.inr (z))) (dc_bk (d_X10_layWays_l3s x0 x1 x3 x5))))) x0 x1 x3 x5 (fun _b => kR _b) N  (0 : Int32) m lv1 (hv.1 _ rfl) (hv.2.1 _ rfl) (hv.2.2.1 _ rfl) (hv.2.2.2.1 _ rfl) (hv.2.2.2.2.1 _ rfl))
    · refine dw_g rfl ?_
      refine dg_s (pc' := 12) [.ref x0] rfl (fun _ => rfl) rfl ?_
      refine dg_s (pc' := 15) [.ref (x0 + 28)] rfl (fun _ => rfl) rfl ?_
      refine dg_s (pc' := 17) [.int x6, .ref (x0 + 28)] rfl (fun _ => rfl) rfl ?_
      refine dg_s (pc' := 20) [.long (-1000000000000 : Int64), .int x6, .ref (x0 + 28)] rfl (fun _ => rfl) rfl ?_
      refine dg_m (pc' := 21) (dc_wl m (x0 + 28) (Int32.toNatClampNeg x6) (-1000000000000 : Int64)) [] rfl (fun _ => rfl) rfl ?_
      refine dg_L (pc' := 24) [(6, .int (x6 + (1 : Int32))), (0, .ref x0), (1, .long x1), (3, .long x3), (5, .int x5)] [] rfl (fun _ => rfl) rfl ?_
      refine dw_s (pc' := 3) [] rfl (fun _ => rfl) ?_
      exact dw_j rfl (fun lv1 hv => ih (x6 + (1 : Int32)) (dc_wl m (x0 + 28) (Int32.toNatClampNeg x6) (-1000000000000 : Int64)) lv1 (hv.1 _ rfl) (hv.2.1 _ rfl) (hv.2.2.1 _ rfl) (hv.2.2.2.1 _ rfl) (hv.2.2.2.2.1 _ rfl))
noncomputable def d_X10_layWays (x0 : Nat) (x1 : Int64) (x3 : Int64) (x5 : Int32) (m : dc_M) : Option dc_M :=
  (d_X10_layWays_l3 x0 x1 x3 x5 (0 : Int32) m)
set_option maxHeartbeats 8000000 in
theorem k_X10_layWays {u : Nat} {N : Nat} {Φ : (Option dc_M) → Option Value → dc_M → Prop} (x0 : Nat) (x1 : Int64) (x3 : Int64) (x5 : Int32) (m : dc_M) (kR : ∀  (m : dc_M), Φ (some (m)) (none) m)  {lv : ab_L} (f0 : ab_lk lv 0 = some (.ref x0)) (f1 : ab_lk lv 1 = some (.long x1)) (f3 : ab_lk lv 3 = some (.long x3)) (f5 : ab_lk lv 5 = some (.int x5)) : dc_pv u N ab_M_X10_layWays 0 lv [] m (Φ (d_X10_layWays x0 x1 x3 x5 m)) := by
  refine dc_pv.mono (dc_ok (C := C_X10_layWays) (S := S_X10_layWays) CO_X10_layWays 400 0 [(0, .ref x0), (1, .long x1), (3, .long x3), (5, .int x5)] lv [] m (dc_sub_cons f0 (dc_sub_cons f1 (dc_sub_cons f3 (dc_sub_cons f5 (dc_sub_nil))))) ?_) (Nat.le_succ N)
  unfold d_X10_layWays
  refine dg_s (pc' := 1) [.int (0 : Int32)] rfl (fun _ => rfl) rfl ?_
  refine dw_L (pc' := 3) [(6, .int (0 : Int32)), (0, .ref x0), (1, .long x1), (3, .long x3), (5, .int x5)] [] rfl (fun _ => rfl) ?_
  exact dw_j rfl (fun lv1 hv => k_X10_layWays_l3 (Φ := (fun t => Φ t)) x0 x1 x3 x5 (fun _b => kR _b) N  (0 : Int32) m lv1 (hv.1 _ rfl) (hv.2.1 _ rfl) (hv.2.2.1 _ rfl) (hv.2.2.2.1 _ rfl) (hv.2.2.2.2.1 _ rfl))
noncomputable def H_X10_layWays : dc_H := fun As m k => match As with
  | [.ref x0, .long x1, .long x3, .int x5] => (d_X10_layWays x0 x1 x3 x5 m).bind (fun q => k (none) q)
  | _ => dc_kz
theorem H_X10_layWays_ok {u : Nat} : dc_cok u 214 H_X10_layWays := fun M' hG N As m k P hz hP => by
  obtain rfl : ab_M_X10_layWays = M' := Option.some.inj hG
  unfold H_X10_layWays at hP
  split at hP
  · rename_i x0 x1 x3 x5
    exact dc_pv.imp (k_X10_layWays (Φ := fun (t : Option dc_M) r m' => P (t.bind (fun q => k (none) q)) → P (k r m')) x0 x1 x3 x5 m (fun _ h => h) rfl rfl rfl rfl) (fun r m' h => h hP)
  · exact absurd hP hz
