/-! ===== methods as functions (written by a program) ===== -/
noncomputable def C_X10_hasRing : List (Nat × dc_H) := [(214, H_X10_layWays)]
theorem CO_X10_hasRing {u : Nat} : dc_CO u C_X10_hasRing := dc_CO_cons H_X10_layWays_ok (dc_CO_nil)
def S_X10_hasRing : List (Nat × List Nat) := [(14, [0, 3, 4])]
noncomputable def d_X10_hasRing_l14b (x0 : Nat) (x3 : Int32) (x4 : Int32) (m : dc_M) : Option ((Int32 × Int32) ⊕ (Int32 × dc_M)) :=
  (if (Int32.toInt (m.1 x0 3)) ≤ (Int32.toInt x4) then some (Sum.inr ((x3, m))) else (if ¬ (Int32.toInt x3) = 0 then some (Sum.inl ((1 : Int32), (x4 + (1 : Int32)))) else (if (Int32.toInt (lg_cmp (m.2.1 (x0 + 28) (Int32.toNatClampNeg ((17 : Int32) * x4))) (0 : Int64))) < 0 then some (Sum.inl ((0 : Int32), (x4 + (1 : Int32)))) else some (Sum.inl ((1 : Int32), (x4 + (1 : Int32)))))))
noncomputable def d_X10_hasRing_l14s (x0 : Nat) (m : dc_M) : (Int32 × Int32) → Option ((Int32 × Int32) ⊕ (Int32 × dc_M)) := fun s => d_X10_hasRing_l14b x0 s.1 s.2 m
noncomputable def d_X10_hasRing_l14 (x0 : Nat) (x3 : Int32) (x4 : Int32) (m : dc_M) : Option (Int32 × dc_M) := dc_lp (d_X10_hasRing_l14s x0 m) (x3, x4)
set_option maxHeartbeats 8000000 in
theorem k_X10_hasRing_l14 {u : Nat} {Φ : (Option (Int32 × dc_M)) → Option Value → dc_M → Prop} (x0 : Nat) (m : dc_M) (kR : ∀ (v : Int32) (m : dc_M), Φ (some ((v, m))) (some (.int v)) m) : ∀ (N : Nat), ∀ (x3 : Int32) (x4 : Int32) (lv : ab_L), ab_lk lv 0 = some (.ref x0) → ab_lk lv 3 = some (.int x3) → ab_lk lv 4 = some (.int x4) → dc_pv u N ab_M_X10_hasRing 14 lv [] m (Φ (d_X10_hasRing_l14 x0 x3 x4 m)) := by
  intro N
  induction N with
  | zero => intros; exact dc_pv_zero
  | succ N ih =>
    intro x3 x4 lv f0 f3 f4
    refine dc_ok (C := C_X10_hasRing) (S := S_X10_hasRing) CO_X10_hasRing 400 14 [(0, .ref x0), (3, .int x3), (4, .int x4)] lv [] m (dc_sub_cons f0 (dc_sub_cons f3 (dc_sub_cons f4 (dc_sub_nil)))) ?_
    unfold d_X10_hasRing_l14
    rw [dc_lp_eq]
    show (fun t x => dc_lf u N ab_M_X10_hasRing (Φ (Option.bind t (dc_bk (d_X10_hasRing_l14s x0 m)))) x) (d_X10_hasRing_l14b x0 x3 x4 m) _
    dsimp only
    unfold d_X10_hasRing_l14b
    refine dg_s (pc' := 16) [.int x4] rfl (fun _ => rfl) rfl ?_
    refine dg_s (pc' := 17) [.ref x0, .int x4] rfl (fun _ => rfl) rfl ?_
    refine dg_s (pc' := 20) [.int (m.1 x0 3), .int x4] rfl (fun _ => rfl) rfl ?_
    refine dw_if (fun t => Φ (Option.bind t (dc_bk (d_X10_hasRing_l14s x0 m)))) ((Int32.toInt (m.1 x0 3)) ≤ (Int32.toInt x4)) [] 54 23 rfl (fun _ => rfl) (fun c0 => ?_) (fun c0 => ?_)
    · refine dw_g rfl ?_
      refine dg_s (pc' := 55) [.int x3] rfl (fun _ => rfl) rfl ?_
      exact dw_r (some (.inl (some (.int x3), m))) rfl (fun _ => rfl) (kR _ _)
    · refine dw_g rfl ?_
      refine dg_s (pc' := 24) [.int x3] rfl (fun _ => rfl) rfl ?_
      refine dw_if (fun t => Φ (Option.bind t (dc_bk (d_X10_hasRing_l14s x0 m)))) (¬ (Int32.toInt x3) = 0) [] 42 27 rfl (fun _ => rfl) (fun c1 => ?_) (fun c1 => ?_)
      · refine dw_g rfl ?_
        refine dg_s (pc' := 43) [.int (1 : Int32)] rfl (fun _ => rfl) rfl ?_
        refine dg_s (pc' := 47) [.int (1 : Int32)] rfl (fun _ => rfl) rfl ?_
        refine dg_L (pc' := 48) [(3, .int (1 : Int32)), (0, .ref x0), (4, .int x4)] [] rfl (fun _ => rfl) rfl ?_
        refine dg_L (pc' := 51) [(4, .int (x4 + (1 : Int32))), (3, .int (1 : Int32)), (0, .ref x0)] [] rfl (fun _ => rfl) rfl ?_
        refine dw_s (pc' := 14) [] rfl (fun _ => rfl) ?_
        exact dw_j rfl (fun lv1 hv => ih (1 : Int32) (x4 + (1 : Int32)) lv1 (hv.1 _ rfl) (hv.2.1 _ rfl) (hv.2.2.1 _ rfl))
      · refine dw_g rfl ?_
        refine dg_s (pc' := 28) [.ref x0] rfl (fun _ => rfl) rfl ?_
        refine dg_s (pc' := 31) [.ref (x0 + 28)] rfl (fun _ => rfl) rfl ?_
        refine dg_s (pc' := 33) [.int (17 : Int32), .ref (x0 + 28)] rfl (fun _ => rfl) rfl ?_
        refine dg_s (pc' := 35) [.int x4, .int (17 : Int32), .ref (x0 + 28)] rfl (fun _ => rfl) rfl ?_
        refine dg_s (pc' := 36) [.int ((17 : Int32) * x4), .ref (x0 + 28)] rfl (fun _ => rfl) rfl ?_
        refine dg_s (pc' := 37) [.long (m.2.1 (x0 + 28) (Int32.toNatClampNeg ((17 : Int32) * x4)))] rfl (fun _ => rfl) rfl ?_
        refine dg_s (pc' := 38) [.long (0 : Int64), .long (m.2.1 (x0 + 28) (Int32.toNatClampNeg ((17 : Int32) * x4)))] rfl (fun _ => rfl) rfl ?_
        refine dg_s (pc' := 39) [.int (lg_cmp (m.2.1 (x0 + 28) (Int32.toNatClampNeg ((17 : Int32) * x4))) (0 : Int64))] rfl (fun _ => rfl) rfl ?_
        refine dw_if (fun t => Φ (Option.bind t (dc_bk (d_X10_hasRing_l14s x0 m)))) ((Int32.toInt (lg_cmp (m.2.1 (x0 + 28) (Int32.toNatClampNeg ((17 : Int32) * x4))) (0 : Int64))) < 0) [] 46 42 rfl (fun _ => rfl) (fun c2 => ?_) (fun c2 => ?_)
        · refine dw_g rfl ?_
          refine dg_s (pc' := 47) [.int (0 : Int32)] rfl (fun _ => rfl) rfl ?_
          refine dg_L (pc' := 48) [(3, .int (0 : Int32)), (0, .ref x0), (4, .int x4)] [] rfl (fun _ => rfl) rfl ?_
          refine dg_L (pc' := 51) [(4, .int (x4 + (1 : Int32))), (3, .int (0 : Int32)), (0, .ref x0)] [] rfl (fun _ => rfl) rfl ?_
          refine dw_s (pc' := 14) [] rfl (fun _ => rfl) ?_
          exact dw_j rfl (fun lv1 hv => ih (0 : Int32) (x4 + (1 : Int32)) lv1 (hv.1 _ rfl) (hv.2.1 _ rfl) (hv.2.2.1 _ rfl))
        · refine dw_g rfl ?_
          refine dg_s (pc' := 43) [.int (1 : Int32)] rfl (fun _ => rfl) rfl ?_
          refine dg_s (pc' := 47) [.int (1 : Int32)] rfl (fun _ => rfl) rfl ?_
          refine dg_L (pc' := 48) [(3, .int (1 : Int32)), (0, .ref x0), (4, .int x4)] [] rfl (fun _ => rfl) rfl ?_
          refine dg_L (pc' := 51) [(4, .int (x4 + (1 : Int32))), (3, .int (1 : Int32)), (0, .ref x0)] [] rfl (fun _ => rfl) rfl ?_
          refine dw_s (pc' := 14) [] rfl (fun _ => rfl) ?_
          exact dw_j rfl (fun lv1 hv => ih (1 : Int32) (x4 + (1 : Int32)) lv1 (hv.1 _ rfl) (hv.2.1 _ rfl) (hv.2.2.1 _ rfl))
noncomputable def d_X10_hasRing (x0 : Nat) (x1 : Int32) (x2 : Int32) (m : dc_M) : Option (Int32 × dc_M) :=
  ((d_X10_layWays x0 (Int32.toInt64 x2) (Int32.toInt64 x1) (0 : Int32) m).bind (fun q1 => (d_X10_hasRing_l14 x0 (0 : Int32) (0 : Int32) q1)))
set_option maxHeartbeats 8000000 in
theorem k_X10_hasRing {u : Nat} {N : Nat} {Φ : (Option (Int32 × dc_M)) → Option Value → dc_M → Prop} (x0 : Nat) (x1 : Int32) (x2 : Int32) (m : dc_M) (kR : ∀ (v : Int32) (m : dc_M), Φ (some ((v, m))) (some (.int v)) m)  {lv : ab_L} (f0 : ab_lk lv 0 = some (.ref x0)) (f1 : ab_lk lv 1 = some (.int x1)) (f2 : ab_lk lv 2 = some (.int x2)) : dc_pv u N ab_M_X10_hasRing 0 lv [] m (Φ (d_X10_hasRing x0 x1 x2 m)) := by
  refine dc_pv.mono (dc_ok (C := C_X10_hasRing) (S := S_X10_hasRing) CO_X10_hasRing 400 0 [(0, .ref x0), (1, .int x1), (2, .int x2)] lv [] m (dc_sub_cons f0 (dc_sub_cons f1 (dc_sub_cons f2 (dc_sub_nil)))) ?_) (Nat.le_succ N)
  unfold d_X10_hasRing
  refine dg_s (pc' := 1) [.ref x0] rfl (fun _ => rfl) rfl ?_
  refine dg_s (pc' := 2) [.int x2, .ref x0] rfl (fun _ => rfl) rfl ?_
  refine dg_s (pc' := 3) [.long (Int32.toInt64 x2), .ref x0] rfl (fun _ => rfl) rfl ?_
  refine dg_s (pc' := 4) [.int x1, .long (Int32.toInt64 x2), .ref x0] rfl (fun _ => rfl) rfl ?_
  refine dg_s (pc' := 5) [.long (Int32.toInt64 x1), .long (Int32.toInt64 x2), .ref x0] rfl (fun _ => rfl) rfl ?_
  refine dg_s (pc' := 6) [.int (0 : Int32), .long (Int32.toInt64 x1), .long (Int32.toInt64 x2), .ref x0] rfl (fun _ => rfl) rfl ?_
  refine dw_b (fun t => Φ t) (pc' := 9) (fun q1 => []) (fun q1 => q1) rfl (fun _ => rfl) (fun q1 => ?_)
  refine dw_g rfl ?_
  refine dg_s (pc' := 10) [.int (0 : Int32)] rfl (fun _ => rfl) rfl ?_
  refine dg_L (pc' := 11) [(3, .int (0 : Int32)), (0, .ref x0), (1, .int x1), (2, .int x2)] [] rfl (fun _ => rfl) rfl ?_
  refine dg_s (pc' := 12) [.int (0 : Int32)] rfl (fun _ => rfl) rfl ?_
  refine dw_L (pc' := 14) [(4, .int (0 : Int32)), (3, .int (0 : Int32)), (0, .ref x0), (1, .int x1), (2, .int x2)] [] rfl (fun _ => rfl) ?_
  exact dw_j rfl (fun lv1 hv => k_X10_hasRing_l14 (Φ := (fun t => Φ t)) x0 q1 (fun _a _b => kR _a _b) N  (0 : Int32) (0 : Int32) lv1 (hv.1 _ rfl) (hv.2.1 _ rfl) (hv.2.2.1 _ rfl))
noncomputable def H_X10_hasRing : dc_H := fun As m k => match As with
  | [.ref x0, .int x1, .int x2] => (d_X10_hasRing x0 x1 x2 m).bind (fun q => k (some (.int q.1)) q.2)
  | _ => dc_kz
theorem H_X10_hasRing_ok {u : Nat} : dc_cok u 216 H_X10_hasRing := fun M' hG N As m k P hz hP => by
  obtain rfl : ab_M_X10_hasRing = M' := Option.some.inj hG
  unfold H_X10_hasRing at hP
  split at hP
  · rename_i x0 x1 x2
    exact dc_pv.imp (k_X10_hasRing (Φ := fun (t : Option (Int32 × dc_M)) r m' => P (t.bind (fun q => k (some (.int q.1)) q.2)) → P (k r m')) x0 x1 x2 m (fun _ _ h => h) rfl rfl rfl) (fun r m' h => h hP)
  · exact absurd hP hz
def C_X10_divisor : List (Nat × dc_H) := []
theorem CO_X10_divisor {u : Nat} : dc_CO u C_X10_divisor := dc_CO_nil
def S_X10_divisor : List (Nat × List Nat) := [(4, [2, 3])]
noncomputable def d_X10_divisor_l4b  (x2 : Int32) (x3 : Int32) (m : dc_M) : Option ((Int32 × Int32) ⊕ Int32) :=
  (if (Int32.toInt x3) = 0 then some (Sum.inr (x2)) else some (Sum.inl (x3, (x2 - x2 / x3 * x3))))
noncomputable def d_X10_divisor_l4s  (m : dc_M) : (Int32 × Int32) → Option ((Int32 × Int32) ⊕ Int32) := fun s => d_X10_divisor_l4b  s.1 s.2 m
noncomputable def d_X10_divisor_l4  (x2 : Int32) (x3 : Int32) (m : dc_M) : Option Int32 := dc_lp (d_X10_divisor_l4s  m) (x2, x3)
set_option maxHeartbeats 8000000 in
theorem k_X10_divisor_l4 {u : Nat} {Φ : (Option Int32) → Option Value → dc_M → Prop}  (m : dc_M) (kR : ∀ (v : Int32), Φ (some (v)) (some (.int v)) m) : ∀ (N : Nat), ∀ (x2 : Int32) (x3 : Int32) (lv : ab_L), ab_lk lv 2 = some (.int x2) → ab_lk lv 3 = some (.int x3) → dc_pv u N ab_M_X10_divisor 4 lv [] m (Φ (d_X10_divisor_l4  x2 x3 m)) := by
  intro N
  induction N with
  | zero => intros; exact dc_pv_zero
  | succ N ih =>
    intro x2 x3 lv f2 f3
    refine dc_ok (C := C_X10_divisor) (S := S_X10_divisor) CO_X10_divisor 400 4 [(2, .int x2), (3, .int x3)] lv [] m (dc_sub_cons f2 (dc_sub_cons f3 (dc_sub_nil))) ?_
    unfold d_X10_divisor_l4
    rw [dc_lp_eq]
    show (fun t x => dc_lf u N ab_M_X10_divisor (Φ (Option.bind t (dc_bk (d_X10_divisor_l4s  m)))) x) (d_X10_divisor_l4b  x2 x3 m) _
    dsimp only
    unfold d_X10_divisor_l4b
    refine dg_s (pc' := 5) [.int x3] rfl (fun _ => rfl) rfl ?_
    refine dw_if (fun t => Φ (Option.bind t (dc_bk (d_X10_divisor_l4s  m)))) ((Int32.toInt x3) = 0) [] 21 8 rfl (fun _ => rfl) (fun c0 => ?_) (fun c0 => ?_)
    · refine dw_g rfl ?_
      refine dg_s (pc' := 22) [.int x2] rfl (fun _ => rfl) rfl ?_
      exact dw_r (some (.inl (some (.int x2), m))) rfl (fun _ => rfl) (kR _)
    · refine dw_g rfl ?_
      refine dg_s (pc' := 9) [.int x2] rfl (fun _ => rfl) rfl ?_
      refine dg_s (pc' := 10) [.int x3, .int x2] rfl (fun _ => rfl) rfl ?_
      refine dg_s (pc' := 11) [.int (x2 - x2 / x3 * x3)] rfl (fun _ => rfl) rfl ?_
      refine dg_L (pc' := 13) [(4, .int (x2 - x2 / x3 * x3)), (2, .int x2), (3, .int x3)] [] rfl (fun _ => rfl) rfl ?_
      refine dg_s (pc' := 14) [.int x3] rfl (fun _ => rfl) rfl ?_
      refine dg_L (pc' := 15) [(2, .int x3), (4, .int (x2 - x2 / x3 * x3)), (3, .int x3)] [] rfl (fun _ => rfl) rfl ?_
      refine dg_s (pc' := 17) [.int (x2 - x2 / x3 * x3)] rfl (fun _ => rfl) rfl ?_
      refine dg_L (pc' := 18) [(3, .int (x2 - x2 / x3 * x3)), (2, .int x3), (4, .int (x2 - x2 / x3 * x3))] [] rfl (fun _ => rfl) rfl ?_
      refine dw_s (pc' := 4) [] rfl (fun _ => rfl) ?_
      exact dw_j rfl (fun lv1 hv => ih x3 (x2 - x2 / x3 * x3) lv1 (hv.1 _ rfl) (hv.2.1 _ rfl))
noncomputable def d_X10_divisor (x0 : Int32) (x1 : Int32) (m : dc_M) : Option Int32 :=
  (d_X10_divisor_l4 x0 x1 m)
set_option maxHeartbeats 8000000 in
theorem k_X10_divisor {u : Nat} {N : Nat} {Φ : (Option Int32) → Option Value → dc_M → Prop} (x0 : Int32) (x1 : Int32) (m : dc_M) (kR : ∀ (v : Int32), Φ (some (v)) (some (.int v)) m)  {lv : ab_L} (f0 : ab_lk lv 0 = some (.int x0)) (f1 : ab_lk lv 1 = some (.int x1)) : dc_pv u N ab_M_X10_divisor 0 lv [] m (Φ (d_X10_divisor x0 x1 m)) := by
  refine dc_pv.mono (dc_ok (C := C_X10_divisor) (S := S_X10_divisor) CO_X10_divisor 400 0 [(0, .int x0), (1, .int x1)] lv [] m (dc_sub_cons f0 (dc_sub_cons f1 (dc_sub_nil))) ?_) (Nat.le_succ N)
  unfold d_X10_divisor
  refine dg_s (pc' := 1) [.int x0] rfl (fun _ => rfl) rfl ?_
  refine dg_L (pc' := 2) [(2, .int x0), (0, .int x0), (1, .int x1)] [] rfl (fun _ => rfl) rfl ?_
  refine dg_s (pc' := 3) [.int x1] rfl (fun _ => rfl) rfl ?_
  refine dw_L (pc' := 4) [(3, .int x1), (2, .int x0), (0, .int x0), (1, .int x1)] [] rfl (fun _ => rfl) ?_
  exact dw_j rfl (fun lv1 hv => k_X10_divisor_l4 (Φ := (fun t => Φ t))  m (fun _a  => kR _a) N  x0 x1 lv1 (hv.1 _ rfl) (hv.2.1 _ rfl))
noncomputable def H_X10_divisor : dc_H := fun As m k => match As with
  | [.int x0, .int x1] => (d_X10_divisor x0 x1 m).bind (fun q => k (some (.int q)) m)
  | _ => dc_kz
theorem H_X10_divisor_ok {u : Nat} : dc_cok u 217 H_X10_divisor := fun M' hG N As m k P hz hP => by
  obtain rfl : ab_M_X10_divisor = M' := Option.some.inj hG
  unfold H_X10_divisor at hP
  split at hP
  · rename_i x0 x1
    exact dc_pv.imp (k_X10_divisor (Φ := fun (t : Option Int32) r m' => P (t.bind (fun q => k (some (.int q)) m)) → P (k r m')) x0 x1 m (fun _  h => h) rfl rfl) (fun r m' h => h hP)
  · exact absurd hP hz
noncomputable def C_X10_beat : List (Nat × dc_H) := [(217, H_X10_divisor), (216, H_X10_hasRing), (146, H_X10_in), (215, H_X10_isGraph), (214, H_X10_layWays)]
theorem CO_X10_beat {u : Nat} : dc_CO u C_X10_beat := dc_CO_cons H_X10_divisor_ok (dc_CO_cons H_X10_hasRing_ok (dc_CO_cons H_X10_in_ok (dc_CO_cons H_X10_isGraph_ok (dc_CO_cons H_X10_layWays_ok (dc_CO_nil)))))
def S_X10_beat : List (Nat × List Nat) := [(43, [0, 1, 2, 3, 4]), (58, [0, 1, 2, 3, 4, 5, 6]), (101, [0, 1, 2, 3, 4, 5]), (124, [0, 1, 2, 3]), (167, [0, 5, 6])]
noncomputable def d_X10_beat_l167b (x0 : Nat) (x5 : Int32) (x6 : Int32) (m : dc_M) : Option ((Int32 × Int32) ⊕ (Int32 × dc_M)) :=
  (if (Int32.toInt (m.1 x0 3)) ≤ (Int32.toInt x6) then some (Sum.inr ((x5, m))) else (if ¬ (Int32.toInt (lg_cmp (m.2.1 (x0 + 28) (Int32.toNatClampNeg ((17 : Int32) * x6))) (0 : Int64))) = 0 then some (Sum.inl ((x5 ||| (0 : Int32)), (x6 + (1 : Int32)))) else some (Sum.inl ((x5 ||| ((1 : Int32) <<< (x6 &&& 31))), (x6 + (1 : Int32))))))
noncomputable def d_X10_beat_l167s (x0 : Nat) (m : dc_M) : (Int32 × Int32) → Option ((Int32 × Int32) ⊕ (Int32 × dc_M)) := fun s => d_X10_beat_l167b x0 s.1 s.2 m
noncomputable def d_X10_beat_l167 (x0 : Nat) (x5 : Int32) (x6 : Int32) (m : dc_M) : Option (Int32 × dc_M) := dc_lp (d_X10_beat_l167s x0 m) (x5, x6)
set_option maxHeartbeats 8000000 in
theorem k_X10_beat_l167 {u : Nat} {Φ : (Option (Int32 × dc_M)) → Option Value → dc_M → Prop} (x0 : Nat) (m : dc_M) (kR : ∀ (v : Int32) (m : dc_M), Φ (some ((v, m))) (some (.int v)) m) : ∀ (N : Nat), ∀ (x5 : Int32) (x6 : Int32) (lv : ab_L), ab_lk lv 0 = some (.ref x0) → ab_lk lv 5 = some (.int x5) → ab_lk lv 6 = some (.int x6) → dc_pv u N ab_M_X10_beat 167 lv [] m (Φ (d_X10_beat_l167 x0 x5 x6 m)) := by
  intro N
  induction N with
  | zero => intros; exact dc_pv_zero
  | succ N ih =>
    intro x5 x6 lv f0 f5 f6
    refine dc_ok (C := C_X10_beat) (S := S_X10_beat) CO_X10_beat 400 167 [(0, .ref x0), (5, .int x5), (6, .int x6)] lv [] m (dc_sub_cons f0 (dc_sub_cons f5 (dc_sub_cons f6 (dc_sub_nil)))) ?_
    unfold d_X10_beat_l167
    rw [dc_lp_eq]
    show (fun t x => dc_lf u N ab_M_X10_beat (Φ (Option.bind t (dc_bk (d_X10_beat_l167s x0 m)))) x) (d_X10_beat_l167b x0 x5 x6 m) _
    dsimp only
    unfold d_X10_beat_l167b
    refine dg_s (pc' := 169) [.int x6] rfl (fun _ => rfl) rfl ?_
    refine dg_s (pc' := 170) [.ref x0, .int x6] rfl (fun _ => rfl) rfl ?_
    refine dg_s (pc' := 173) [.int (m.1 x0 3), .int x6] rfl (fun _ => rfl) rfl ?_
    refine dw_if (fun t => Φ (Option.bind t (dc_bk (d_X10_beat_l167s x0 m)))) ((Int32.toInt (m.1 x0 3)) ≤ (Int32.toInt x6)) [] 210 176 rfl (fun _ => rfl) (fun c0 => ?_) (fun c0 => ?_)
    · refine dw_g rfl ?_
      refine dg_s (pc' := 212) [.int x5] rfl (fun _ => rfl) rfl ?_
      exact dw_r (some (.inl (some (.int x5), m))) rfl (fun _ => rfl) (kR _ _)
    · refine dw_g rfl ?_
      refine dg_s (pc' := 178) [.int x5] rfl (fun _ => rfl) rfl ?_
      refine dg_s (pc' := 179) [.ref x0, .int x5] rfl (fun _ => rfl) rfl ?_
      refine dg_s (pc' := 182) [.ref (x0 + 28), .int x5] rfl (fun _ => rfl) rfl ?_
      refine dg_s (pc' := 184) [.int (17 : Int32), .ref (x0 + 28), .int x5] rfl (fun _ => rfl) rfl ?_
      refine dg_s (pc' := 186) [.int x6, .int (17 : Int32), .ref (x0 + 28), .int x5] rfl (fun _ => rfl) rfl ?_
      refine dg_s (pc' := 187) [.int ((17 : Int32) * x6), .ref (x0 + 28), .int x5] rfl (fun _ => rfl) rfl ?_
      refine dg_s (pc' := 188) [.long (m.2.1 (x0 + 28) (Int32.toNatClampNeg ((17 : Int32) * x6))), .int x5] rfl (fun _ => rfl) rfl ?_
      refine dg_s (pc' := 189) [.long (0 : Int64), .long (m.2.1 (x0 + 28) (Int32.toNatClampNeg ((17 : Int32) * x6))), .int x5] rfl (fun _ => rfl) rfl ?_
      refine dg_s (pc' := 190) [.int (lg_cmp (m.2.1 (x0 + 28) (Int32.toNatClampNeg ((17 : Int32) * x6))) (0 : Int64)), .int x5] rfl (fun _ => rfl) rfl ?_
      refine dw_if (fun t => Φ (Option.bind t (dc_bk (d_X10_beat_l167s x0 m)))) (¬ (Int32.toInt (lg_cmp (m.2.1 (x0 + 28) (Int32.toNatClampNeg ((17 : Int32) * x6))) (0 : Int64))) = 0) [.int x5] 200 193 rfl (fun _ => rfl) (fun c1 => ?_) (fun c1 => ?_)
      · refine dw_g rfl ?_
        refine dg_s (pc' := 201) [.int (0 : Int32), .int x5] rfl (fun _ => rfl) rfl ?_
        refine dg_s (pc' := 202) [.int (x5 ||| (0 : Int32))] rfl (fun _ => rfl) rfl ?_
        refine dg_L (pc' := 204) [(5, .int (x5 ||| (0 : Int32))), (0, .ref x0), (6, .int x6)] [] rfl (fun _ => rfl) rfl ?_
        refine dg_L (pc' := 207) [(6, .int (x6 + (1 : Int32))), (5, .int (x5 ||| (0 : Int32))), (0, .ref x0)] [] rfl (fun _ => rfl) rfl ?_
        refine dw_s (pc' := 167) [] rfl (fun _ => rfl) ?_
        exact dw_j rfl (fun lv1 hv => ih (x5 ||| (0 : Int32)) (x6 + (1 : Int32)) lv1 (hv.1 _ rfl) (hv.2.1 _ rfl) (hv.2.2.1 _ rfl))
      · refine dw_g rfl ?_
        refine dg_s (pc' := 194) [.int (1 : Int32), .int x5] rfl (fun _ => rfl) rfl ?_
        refine dg_s (pc' := 196) [.int x6, .int (1 : Int32), .int x5] rfl (fun _ => rfl) rfl ?_
        refine dg_s (pc' := 197) [.int ((1 : Int32) <<< (x6 &&& 31)), .int x5] rfl (fun _ => rfl) rfl ?_
        refine dg_s (pc' := 201) [.int ((1 : Int32) <<< (x6 &&& 31)), .int x5] rfl (fun _ => rfl) rfl ?_
        refine dg_s (pc' := 202) [.int (x5 ||| ((1 : Int32) <<< (x6 &&& 31)))] rfl (fun _ => rfl) rfl ?_
        refine dg_L (pc' := 204) [(5, .int (x5 ||| ((1 : Int32) <<< (x6 &&& 31)))), (0, .ref x0), (6, .int x6)] [] rfl (fun _ => rfl) rfl ?_
        refine dg_L (pc' := 207) [(6, .int (x6 + (1 : Int32))), (5, .int (x5 ||| ((1 : Int32) <<< (x6 &&& 31)))), (0, .ref x0)] [] rfl (fun _ => rfl) rfl ?_
        refine dw_s (pc' := 167) [] rfl (fun _ => rfl) ?_
        exact dw_j rfl (fun lv1 hv => ih (x5 ||| ((1 : Int32) <<< (x6 &&& 31))) (x6 + (1 : Int32)) lv1 (hv.1 _ rfl) (hv.2.1 _ rfl) (hv.2.2.1 _ rfl))
noncomputable def d_X10_beat_b124 (x0 : Nat) (x1 : Int32) (x2 : Int32) (x3 : Int32) (m : dc_M) : Option (Int32 × dc_M) :=
  ((d_X10_divisor x2 x3 m).bind (fun q1 => (if 2 ≤ (Int32.toInt x1) then ((d_X10_layWays x0 (Int32.toInt64 x3) (Int32.toInt64 x2) (0 : Int32) m).bind (fun q2 => (d_X10_beat_l167 x0 (0 : Int32) (0 : Int32) q2))) else (if ¬ (Int32.toInt x1) = 0 then some (((x3 / q1), m)) else some (((x2 / q1), m))))))
set_option maxHeartbeats 8000000 in
theorem k_X10_beat_b124 {u : Nat} {N : Nat} {Φ : (Option (Int32 × dc_M)) → Option Value → dc_M → Prop} (x0 : Nat) (x1 : Int32) (x2 : Int32) (x3 : Int32) (m : dc_M) (kR : ∀ (v : Int32) (m : dc_M), Φ (some ((v, m))) (some (.int v)) m)  {lv : ab_L} (f0 : ab_lk lv 0 = some (.ref x0)) (f1 : ab_lk lv 1 = some (.int x1)) (f2 : ab_lk lv 2 = some (.int x2)) (f3 : ab_lk lv 3 = some (.int x3)) : dc_pv u N ab_M_X10_beat 124 lv [] m (Φ (d_X10_beat_b124 x0 x1 x2 x3 m)) := by
  refine dc_pv.mono (dc_ok (C := C_X10_beat) (S := S_X10_beat) CO_X10_beat 400 124 [(0, .ref x0), (1, .int x1), (2, .int x2), (3, .int x3)] lv [] m (dc_sub_cons f0 (dc_sub_cons f1 (dc_sub_cons f2 (dc_sub_cons f3 (dc_sub_nil))))) ?_) (Nat.le_succ N)
  unfold d_X10_beat_b124
  refine dg_s (pc' := 125) [.int x2] rfl (fun _ => rfl) rfl ?_
  refine dg_s (pc' := 126) [.int x3, .int x2] rfl (fun _ => rfl) rfl ?_
  refine dw_b (fun t => Φ t) (pc' := 129) (fun q1 => [.int q1]) (fun q1 => m) rfl (fun _ => rfl) (fun q1 => ?_)
  refine dw_g rfl ?_
  refine dg_L (pc' := 131) [(4, .int q1), (0, .ref x0), (1, .int x1), (2, .int x2), (3, .int x3)] [] rfl (fun _ => rfl) rfl ?_
  refine dg_s (pc' := 132) [.int x1] rfl (fun _ => rfl) rfl ?_
  refine dg_s (pc' := 133) [.int (2 : Int32), .int x1] rfl (fun _ => rfl) rfl ?_
  refine dw_if (fun t => Φ t) (2 ≤ (Int32.toInt x1)) [] 152 136 rfl (fun _ => rfl) (fun c0 => ?_) (fun c0 => ?_)
  · refine dw_g rfl ?_
    refine dg_s (pc' := 153) [.ref x0] rfl (fun _ => rfl) rfl ?_
    refine dg_s (pc' := 154) [.int x3, .ref x0] rfl (fun _ => rfl) rfl ?_
    refine dg_s (pc' := 155) [.long (Int32.toInt64 x3), .ref x0] rfl (fun _ => rfl) rfl ?_
    refine dg_s (pc' := 156) [.int x2, .long (Int32.toInt64 x3), .ref x0] rfl (fun _ => rfl) rfl ?_
    refine dg_s (pc' := 157) [.long (Int32.toInt64 x2), .long (Int32.toInt64 x3), .ref x0] rfl (fun _ => rfl) rfl ?_
    refine dg_s (pc' := 158) [.int (0 : Int32), .long (Int32.toInt64 x2), .long (Int32.toInt64 x3), .ref x0] rfl (fun _ => rfl) rfl ?_
    refine dw_b (fun t => Φ t) (pc' := 161) (fun q2 => []) (fun q2 => q2) rfl (fun _ => rfl) (fun q2 => ?_)
    refine dw_g rfl ?_
    refine dg_s (pc' := 162) [.int (0 : Int32)] rfl (fun _ => rfl) rfl ?_
    refine dg_L (pc' := 164) [(5, .int (0 : Int32)), (4, .int q1), (0, .ref x0), (1, .int x1), (2, .int x2), (3, .int x3)] [] rfl (fun _ => rfl) rfl ?_
    refine dg_s (pc' := 165) [.int (0 : Int32)] rfl (fun _ => rfl) rfl ?_
    refine dw_L (pc' := 167) [(6, .int (0 : Int32)), (5, .int (0 : Int32)), (4, .int q1), (0, .ref x0), (1, .int x1), (2, .int x2), (3, .int x3)] [] rfl (fun _ => rfl) ?_
    exact dw_j rfl (fun lv1 hv => k_X10_beat_l167 (Φ := (fun t => Φ t)) x0 q2 (fun _a _b => kR _a _b) N  (0 : Int32) (0 : Int32) lv1 (hv.1 _ rfl) (hv.2.1 _ rfl) (hv.2.2.1 _ rfl))
  · refine dw_g rfl ?_
    refine dg_s (pc' := 137) [.int x1] rfl (fun _ => rfl) rfl ?_
    refine dw_if (fun t => Φ t) (¬ (Int32.toInt x1) = 0) [] 147 140 rfl (fun _ => rfl) (fun c1 => ?_) (fun c1 => ?_)
    · refine dw_g rfl ?_
      refine dg_s (pc' := 148) [.int x3] rfl (fun _ => rfl) rfl ?_
      refine dg_s (pc' := 150) [.int q1, .int x3] rfl (fun _ => rfl) rfl ?_
      refine dg_s (pc' := 151) [.int (x3 / q1)] rfl (fun _ => rfl) rfl ?_
      exact dw_r (some (.inl (some (.int (x3 / q1)), m))) rfl (fun _ => rfl) (kR _ _)
    · refine dw_g rfl ?_
      refine dg_s (pc' := 141) [.int x2] rfl (fun _ => rfl) rfl ?_
      refine dg_s (pc' := 143) [.int q1, .int x2] rfl (fun _ => rfl) rfl ?_
      refine dg_s (pc' := 144) [.int (x2 / q1)] rfl (fun _ => rfl) rfl ?_
      refine dg_s (pc' := 151) [.int (x2 / q1)] rfl (fun _ => rfl) rfl ?_
      exact dw_r (some (.inl (some (.int (x2 / q1)), m))) rfl (fun _ => rfl) (kR _ _)
noncomputable def d_X10_beat_b101 (x0 : Nat) (x1 : Int32) (x2 : Int32) (x3 : Int32) (x4 : Int32) (x5 : Int32) (m : dc_M) : Option ((Int32 × Int32 × Int32 × dc_M) ⊕ (Int32 × dc_M)) :=
  (if (Int32.toInt (x5 * x3)) ≤ (Int32.toInt (x2 * x4)) then some (Sum.inl (x2, x3, (x4 + (1 : Int32)), m)) else some (Sum.inl (x5, x4, (x4 + (1 : Int32)), m)))
set_option maxHeartbeats 8000000 in
theorem k_X10_beat_b101 {u : Nat} {N : Nat} {Φ : (Option ((Int32 × Int32 × Int32 × dc_M) ⊕ (Int32 × dc_M))) → Option Value → dc_M → Prop} (x0 : Nat) (x1 : Int32) (x2 : Int32) (x3 : Int32) (x4 : Int32) (x5 : Int32) (m : dc_M) (kR : ∀ (v : Int32) (m : dc_M), Φ (some (Sum.inr ((v, m)))) (some (.int v)) m) (k43 : ∀ (x2 : Int32) (x3 : Int32) (x4 : Int32) (m : dc_M) (lv : ab_L), ab_lk lv 0 = some (.ref x0) → ab_lk lv 1 = some (.int x1) → ab_lk lv 2 = some (.int x2) → ab_lk lv 3 = some (.int x3) → ab_lk lv 4 = some (.int x4) →  dc_pv u N ab_M_X10_beat 43 lv [] m (Φ (some (Sum.inl (x2, x3, x4, m))))) {lv : ab_L} (f0 : ab_lk lv 0 = some (.ref x0)) (f1 : ab_lk lv 1 = some (.int x1)) (f2 : ab_lk lv 2 = some (.int x2)) (f3 : ab_lk lv 3 = some (.int x3)) (f4 : ab_lk lv 4 = some (.int x4)) (f5 : ab_lk lv 5 = some (.int x5)) : dc_pv u N ab_M_X10_beat 101 lv [] m (Φ (d_X10_beat_b101 x0 x1 x2 x3 x4 x5 m)) := by
  refine dc_pv.mono (dc_ok (C := C_X10_beat) (S := S_X10_beat) CO_X10_beat 400 101 [(0, .ref x0), (1, .int x1), (2, .int x2), (3, .int x3), (4, .int x4), (5, .int x5)] lv [] m (dc_sub_cons f0 (dc_sub_cons f1 (dc_sub_cons f2 (dc_sub_cons f3 (dc_sub_cons f4 (dc_sub_cons f5 (dc_sub_nil))))))) ?_) (Nat.le_succ N)
  unfold d_X10_beat_b101
  refine dg_s (pc' := 103) [.int x5] rfl (fun _ => rfl) rfl ?_
  refine dg_s (pc' := 104) [.int x3, .int x5] rfl (fun _ => rfl) rfl ?_
  refine dg_s (pc' := 105) [.int (x5 * x3)] rfl (fun _ => rfl) rfl ?_
  refine dg_s (pc' := 106) [.int x2, .int (x5 * x3)] rfl (fun _ => rfl) rfl ?_
  refine dg_s (pc' := 108) [.int x4, .int x2, .int (x5 * x3)] rfl (fun _ => rfl) rfl ?_
  refine dg_s (pc' := 109) [.int (x2 * x4), .int (x5 * x3)] rfl (fun _ => rfl) rfl ?_
  refine dw_if (fun t => Φ t) ((Int32.toInt (x5 * x3)) ≤ (Int32.toInt (x2 * x4))) [] 118 112 rfl (fun _ => rfl) (fun c0 => ?_) (fun c0 => ?_)
  · refine dw_g rfl ?_
    refine dg_L (pc' := 121) [(4, .int (x4 + (1 : Int32))), (0, .ref x0), (1, .int x1), (2, .int x2), (3, .int x3), (5, .int x5)] [] rfl (fun _ => rfl) rfl ?_
    refine dw_s (pc' := 43) [] rfl (fun _ => rfl) ?_
    exact dw_j rfl (fun lv1 hv => k43 x2 x3 (x4 + (1 : Int32)) m lv1 (hv.1 _ rfl) (hv.2.1 _ rfl) (hv.2.2.1 _ rfl) (hv.2.2.2.1 _ rfl) (hv.2.2.2.2.1 _ rfl))
  · refine dw_g rfl ?_
    refine dg_s (pc' := 114) [.int x5] rfl (fun _ => rfl) rfl ?_
    refine dg_L (pc' := 115) [(2, .int x5), (0, .ref x0), (1, .int x1), (3, .int x3), (4, .int x4), (5, .int x5)] [] rfl (fun _ => rfl) rfl ?_
    refine dg_s (pc' := 117) [.int x4] rfl (fun _ => rfl) rfl ?_
    refine dg_L (pc' := 118) [(3, .int x4), (2, .int x5), (0, .ref x0), (1, .int x1), (4, .int x4), (5, .int x5)] [] rfl (fun _ => rfl) rfl ?_
    refine dg_L (pc' := 121) [(4, .int (x4 + (1 : Int32))), (3, .int x4), (2, .int x5), (0, .ref x0), (1, .int x1), (5, .int x5)] [] rfl (fun _ => rfl) rfl ?_
    refine dw_s (pc' := 43) [] rfl (fun _ => rfl) ?_
    exact dw_j rfl (fun lv1 hv => k43 x5 x4 (x4 + (1 : Int32)) m lv1 (hv.1 _ rfl) (hv.2.1 _ rfl) (hv.2.2.1 _ rfl) (hv.2.2.2.1 _ rfl) (hv.2.2.2.2.1 _ rfl))
noncomputable def d_X10_beat_l58b (x0 : Nat) (x1 : Int32) (x2 : Int32) (x3 : Int32) (x4 : Int32) (x5 : Int32) (x6 : Int32) (m : dc_M) : Option ((Int32 × Int32 × dc_M) ⊕ ((Int32 × Int32 × Int32 × dc_M) ⊕ (Int32 × dc_M))) :=
  (if (Int32.toInt (x6 - x5)) ≤ 1 then ((d_X10_beat_b101 x0 x1 x2 x3 x4 x5 m).map (fun z => Sum.inr (z))) else ((d_X10_hasRing x0 ((x5 + x6) / (2 : Int32)) x4 m).bind (fun q1 => (if (Int32.toInt q1.1) = 0 then some (Sum.inl (x5, ((x5 + x6) / (2 : Int32)), q1.2)) else some (Sum.inl (((x5 + x6) / (2 : Int32)), x6, q1.2))))))
noncomputable def d_X10_beat_l58s (x0 : Nat) (x1 : Int32) (x2 : Int32) (x3 : Int32) (x4 : Int32) : (Int32 × Int32 × dc_M) → Option ((Int32 × Int32 × dc_M) ⊕ ((Int32 × Int32 × Int32 × dc_M) ⊕ (Int32 × dc_M))) := fun s => d_X10_beat_l58b x0 x1 x2 x3 x4 s.1 s.2.1 s.2.2
noncomputable def d_X10_beat_l58 (x0 : Nat) (x1 : Int32) (x2 : Int32) (x3 : Int32) (x4 : Int32) (x5 : Int32) (x6 : Int32) (m : dc_M) : Option ((Int32 × Int32 × Int32 × dc_M) ⊕ (Int32 × dc_M)) := dc_lp (d_X10_beat_l58s x0 x1 x2 x3 x4) (x5, x6, m)
set_option maxHeartbeats 8000000 in
theorem k_X10_beat_l58 {u : Nat} {Φ : (Option ((Int32 × Int32 × Int32 × dc_M) ⊕ (Int32 × dc_M))) → Option Value → dc_M → Prop} (x0 : Nat) (x1 : Int32) (x2 : Int32) (x3 : Int32) (x4 : Int32) (kR : ∀ (v : Int32) (m : dc_M), Φ (some (Sum.inr ((v, m)))) (some (.int v)) m) : ∀ (N : Nat), (∀ (x2 : Int32) (x3 : Int32) (x4 : Int32) (m : dc_M) (lv : ab_L), ab_lk lv 0 = some (.ref x0) → ab_lk lv 1 = some (.int x1) → ab_lk lv 2 = some (.int x2) → ab_lk lv 3 = some (.int x3) → ab_lk lv 4 = some (.int x4) →  dc_pv u N ab_M_X10_beat 43 lv [] m (Φ (some (Sum.inl (x2, x3, x4, m))))) → ∀ (x5 : Int32) (x6 : Int32) (m : dc_M) (lv : ab_L), ab_lk lv 0 = some (.ref x0) → ab_lk lv 1 = some (.int x1) → ab_lk lv 2 = some (.int x2) → ab_lk lv 3 = some (.int x3) → ab_lk lv 4 = some (.int x4) → ab_lk lv 5 = some (.int x5) → ab_lk lv 6 = some (.int x6) → dc_pv u N ab_M_X10_beat 58 lv [] m (Φ (d_X10_beat_l58 x0 x1 x2 x3 x4 x5 x6 m)) := by
  intro N
  induction N with
  | zero => intros; exact dc_pv_zero
  | succ N ih =>
    intro k43 x5 x6 m lv f0 f1 f2 f3 f4 f5 f6
    have k43 := fun a0 a1 a2 a3 a4 a5 a6 a7 a8 a9 => (k43 a0 a1 a2 a3 a4 a5 a6 a7 a8 a9).mono (Nat.le_succ N)
    have ih := ih k43
    refine dc_ok (C := C_X10_beat) (S := S_X10_beat) CO_X10_beat 400 58 [(0, .ref x0), (1, .int x1), (2, .int x2), (3, .int x3), (4, .int x4), (5, .int x5), (6, .int x6)] lv [] m (dc_sub_cons f0 (dc_sub_cons f1 (dc_sub_cons f2 (dc_sub_cons f3 (dc_sub_cons f4 (dc_sub_cons f5 (dc_sub_cons f6 (dc_sub_nil)))))))) ?_
    unfold d_X10_beat_l58
    rw [dc_lp_eq]
    show (fun t x => dc_lf u N ab_M_X10_beat (Φ (Option.bind t (dc_bk (d_X10_beat_l58s x0 x1 x2 x3 x4)))) x) (d_X10_beat_l58b x0 x1 x2 x3 x4 x5 x6 m) _
    dsimp only
    unfold d_X10_beat_l58b
    refine dg_s (pc' := 60) [.int x6] rfl (fun _ => rfl) rfl ?_
    refine dg_s (pc' := 62) [.int x5, .int x6] rfl (fun _ => rfl) rfl ?_
    refine dg_s (pc' := 63) [.int (x6 - x5)] rfl (fun _ => rfl) rfl ?_
    refine dg_s (pc' := 64) [.int (1 : Int32), .int (x6 - x5)] rfl (fun _ => rfl) rfl ?_
    refine dw_if (fun t => Φ (Option.bind t (dc_bk (d_X10_beat_l58s x0 x1 x2 x3 x4)))) ((Int32.toInt (x6 - x5)) ≤ 1) [] 101 67 rfl (fun _ => rfl) (fun c0 => ?_) (fun c0 => ?_)
    · exact dw_j rfl (fun lv1 hv => k_X10_beat_b101 (Φ := (fun t => Φ (Option.bind (t.map (fun z => Sum.inr (z))) (dc_bk (d_X10_beat_l58s x0 x1 x2 x3 x4))))) x0 x1 x2 x3 x4 x5 m (fun _a _b => kR _a _b) k43 (hv.1 _ rfl) (hv.2.1 _ rfl) (hv.2.2.1 _ rfl) (hv.2.2.2.1 _ rfl) (hv.2.2.2.2.1 _ rfl) (hv.2.2.2.2.2.1 _ rfl))
    · refine dw_g rfl ?_
      refine dg_s (pc' := 69) [.int x5] rfl (fun _ => rfl) rfl ?_
      refine dg_s (pc' := 71) [.int x6, .int x5] rfl (fun _ => rfl) rfl ?_
      refine dg_s (pc' := 72) [.int (x5 + x6)] rfl (fun _ => rfl) rfl ?_
      refine dg_s (pc' := 73) [.int (2 : Int32), .int (x5 + x6)] rfl (fun _ => rfl) rfl ?_
      refine dg_s (pc' := 74) [.int ((x5 + x6) / (2 : Int32))] rfl (fun _ => rfl) rfl ?_
      refine dg_L (pc' := 76) [(7, .int ((x5 + x6) / (2 : Int32))), (0, .ref x0), (1, .int x1), (2, .int x2), (3, .int x3), (4, .int x4), (5, .int x5), (6, .int x6)] [] rfl (fun _ => rfl) rfl ?_
      refine dg_s (pc' := 77) [.ref x0] rfl (fun _ => rfl) rfl ?_
      refine dg_s (pc' := 79) [.int ((x5 + x6) / (2 : Int32)), .ref x0] rfl (fun _ => rfl) rfl ?_
      refine dg_s (pc' := 81) [.int x4, .int ((x5 + x6) / (2 : Int32)), .ref x0] rfl (fun _ => rfl) rfl ?_
      refine dw_b (fun t => Φ (Option.bind t (dc_bk (d_X10_beat_l58s x0 x1 x2 x3 x4)))) (pc' := 84) (fun q1 => [.int q1.1]) (fun q1 => q1.2) rfl (fun _ => rfl) (fun q1 => ?_)
      refine dw_g rfl ?_
      refine dw_if (fun t => Φ (Option.bind t (dc_bk (d_X10_beat_l58s x0 x1 x2 x3 x4)))) ((Int32.toInt q1.1) = 0) [] 94 87 rfl (fun _ => rfl) (fun c1 => ?_) (fun c1 => ?_)
      · refine dw_g rfl ?_
        refine dg_s (pc' := 96) [.int ((x5 + x6) / (2 : Int32))] rfl (fun _ => rfl) rfl ?_
        refine dg_L (pc' := 98) [(6, .int ((x5 + x6) / (2 : Int32))), (7, .int ((x5 + x6) / (2 : Int32))), (0, .ref x0), (1, .int x1), (2, .int x2), (3, .int x3), (4, .int x4), (5, .int x5)] [] rfl (fun _ => rfl) rfl ?_
        refine dw_s (pc' := 58) [] rfl (fun _ => rfl) ?_
        exact dw_j rfl (fun lv1 hv => ih x5 ((x5 + x6) / (2 : Int32)) q1.2 lv1 (hv.1 _ rfl) (hv.2.1 _ rfl) (hv.2.2.1 _ rfl) (hv.2.2.2.1 _ rfl) (hv.2.2.2.2.1 _ rfl) (hv.2.2.2.2.2.1 _ rfl) (hv.2.2.2.2.2.2.1 _ rfl))
      · refine dw_g rfl ?_
        refine dg_s (pc' := 89) [.int ((x5 + x6) / (2 : Int32))] rfl (fun _ => rfl) rfl ?_
        refine dg_L (pc' := 91) [(5, .int ((x5 + x6) / (2 : Int32))), (7, .int ((x5 + x6) / (2 : Int32))), (0, .ref x0), (1, .int x1), (2, .int x2), (3, .int x3), (4, .int x4), (6, .int x6)] [] rfl (fun _ => rfl) rfl ?_
        refine dg_s (pc' := 98) [] rfl (fun _ => rfl) rfl ?_
        refine dw_s (pc' := 58) [] rfl (fun _ => rfl) ?_
        exact dw_j rfl (fun lv1 hv => ih ((x5 + x6) / (2 : Int32)) x6 q1.2 lv1 (hv.1 _ rfl) (hv.2.1 _ rfl) (hv.2.2.1 _ rfl) (hv.2.2.2.1 _ rfl) (hv.2.2.2.2.1 _ rfl) (hv.2.2.2.2.2.1 _ rfl) (hv.2.2.2.2.2.2.1 _ rfl))
noncomputable def d_X10_beat_l43b (x0 : Nat) (x1 : Int32) (x2 : Int32) (x3 : Int32) (x4 : Int32) (m : dc_M) : Option ((Int32 × Int32 × Int32 × dc_M) ⊕ (Int32 × dc_M)) :=
  (if 16 < (Int32.toInt x4) then ((d_X10_beat_b124 x0 x1 x2 x3 m).map (fun z => Sum.inr (z))) else (d_X10_beat_l58 x0 x1 x2 x3 x4 (0 : Int32) (321 : Int32) m))
noncomputable def d_X10_beat_l43s (x0 : Nat) (x1 : Int32) : (Int32 × Int32 × Int32 × dc_M) → Option ((Int32 × Int32 × Int32 × dc_M) ⊕ (Int32 × dc_M)) := fun s => d_X10_beat_l43b x0 x1 s.1 s.2.1 s.2.2.1 s.2.2.2
noncomputable def d_X10_beat_l43 (x0 : Nat) (x1 : Int32) (x2 : Int32) (x3 : Int32) (x4 : Int32) (m : dc_M) : Option (Int32 × dc_M) := dc_lp (d_X10_beat_l43s x0 x1) (x2, x3, x4, m)
set_option maxHeartbeats 8000000 in
theorem k_X10_beat_l43 {u : Nat} {Φ : (Option (Int32 × dc_M)) → Option Value → dc_M → Prop} (x0 : Nat) (x1 : Int32) (kR : ∀ (v : Int32) (m : dc_M), Φ (some ((v, m))) (some (.int v)) m) : ∀ (N : Nat), ∀ (x2 : Int32) (x3 : Int32) (x4 : Int32) (m : dc_M) (lv : ab_L), ab_lk lv 0 = some (.ref x0) → ab_lk lv 1 = some (.int x1) → ab_lk lv 2 = some (.int x2) → ab_lk lv 3 = some (.int x3) → ab_lk lv 4 = some (.int x4) → dc_pv u N ab_M_X10_beat 43 lv [] m (Φ (d_X10_beat_l43 x0 x1 x2 x3 x4 m)) := by
  intro N
  induction N with
  | zero => intros; exact dc_pv_zero
  | succ N ih =>
    intro x2 x3 x4 m lv f0 f1 f2 f3 f4
    refine dc_ok (C := C_X10_beat) (S := S_X10_beat) CO_X10_beat 400 43 [(0, .ref x0), (1, .int x1), (2, .int x2), (3, .int x3), (4, .int x4)] lv [] m (dc_sub_cons f0 (dc_sub_cons f1 (dc_sub_cons f2 (dc_sub_cons f3 (dc_sub_cons f4 (dc_sub_nil)))))) ?_
    unfold d_X10_beat_l43
    rw [dc_lp_eq]
    show (fun t x => dc_lf u N ab_M_X10_beat (Φ (Option.bind t (dc_bk (d_X10_beat_l43s x0 x1)))) x) (d_X10_beat_l43b x0 x1 x2 x3 x4 m) _
    dsimp only
    unfold d_X10_beat_l43b
    refine dg_s (pc' := 45) [.int x4] rfl (fun _ => rfl) rfl ?_
    refine dg_s (pc' := 47) [.int (16 : Int32), .int x4] rfl (fun _ => rfl) rfl ?_
    refine dw_if (fun t => Φ (Option.bind t (dc_bk (d_X10_beat_l43s x0 x1)))) (16 < (Int32.toInt x4)) [] 124 50 rfl (fun _ => rfl) (fun c0 => ?_) (fun c0 => ?_)
    · exact dw_j rfl (fun lv1 hv => k_X10_beat_b124 (Φ := (fun t => Φ (Option.bind (t.map (fun z => Sum.inr (z))) (dc_bk (d_X10_beat_l43s x0 x1))))) x0 x1 x2 x3 m (fun _a _b => kR _a _b)  (hv.1 _ rfl) (hv.2.1 _ rfl) (hv.2.2.1 _ rfl) (hv.2.2.2.1 _ rfl))
    · refine dw_g rfl ?_
      refine dg_s (pc' := 51) [.int (0 : Int32)] rfl (fun _ => rfl) rfl ?_
      refine dg_L (pc' := 53) [(5, .int (0 : Int32)), (0, .ref x0), (1, .int x1), (2, .int x2), (3, .int x3), (4, .int x4)] [] rfl (fun _ => rfl) rfl ?_
      refine dg_s (pc' := 56) [.int (321 : Int32)] rfl (fun _ => rfl) rfl ?_
      refine dw_L (pc' := 58) [(6, .int (321 : Int32)), (5, .int (0 : Int32)), (0, .ref x0), (1, .int x1), (2, .int x2), (3, .int x3), (4, .int x4)] [] rfl (fun _ => rfl) ?_
      exact dw_j rfl (fun lv1 hv => k_X10_beat_l58 (Φ := (fun t => Φ (Option.bind t (dc_bk (d_X10_beat_l43s x0 x1))))) x0 x1 x2 x3 x4 (fun _a _b => kR _a _b) N ih (0 : Int32) (321 : Int32) m lv1 (hv.1 _ rfl) (hv.2.1 _ rfl) (hv.2.2.1 _ rfl) (hv.2.2.2.1 _ rfl) (hv.2.2.2.2.1 _ rfl) (hv.2.2.2.2.2.1 _ rfl) (hv.2.2.2.2.2.2.1 _ rfl))
noncomputable def d_X10_beat (x0 : Nat) (x1 : Int32) (m : dc_M) : Option (Int32 × dc_M) :=
  (if ¬ (Int32.toInt (d_X10_in (Int32.toInt64 x1) (0 : Int64) (2 : Int64) m)) = 0 then ((d_X10_isGraph x0 m).bind (fun q1 => (if ¬ (Int32.toInt q1.1) = 0 then ((d_X10_hasRing x0 (0 : Int32) (1 : Int32) q1.2).bind (fun q2 => (if ¬ (Int32.toInt q2.1) = 0 then (d_X10_beat_l43 x0 x1 (0 : Int32) (1 : Int32) (1 : Int32) q2.2) else some (((-4 : Int32), q2.2))))) else some (((-2 : Int32), q1.2))))) else some (((-1 : Int32), m)))
set_option maxHeartbeats 8000000 in
theorem k_X10_beat {u : Nat} {N : Nat} {Φ : (Option (Int32 × dc_M)) → Option Value → dc_M → Prop} (x0 : Nat) (x1 : Int32) (m : dc_M) (kR : ∀ (v : Int32) (m : dc_M), Φ (some ((v, m))) (some (.int v)) m)  {lv : ab_L} (f0 : ab_lk lv 0 = some (.ref x0)) (f1 : ab_lk lv 1 = some (.int x1)) : dc_pv u N ab_M_X10_beat 0 lv [] m (Φ (d_X10_beat x0 x1 m)) := by
  refine dc_pv.mono (dc_ok (C := C_X10_beat) (S := S_X10_beat) CO_X10_beat 400 0 [(0, .ref x0), (1, .int x1)] lv [] m (dc_sub_cons f0 (dc_sub_cons f1 (dc_sub_nil))) ?_) (Nat.le_succ N)
  unfold d_X10_beat
  refine dg_s (pc' := 1) [.int x1] rfl (fun _ => rfl) rfl ?_
  refine dg_s (pc' := 2) [.long (Int32.toInt64 x1)] rfl (fun _ => rfl) rfl ?_
  refine dg_s (pc' := 3) [.long (0 : Int64), .long (Int32.toInt64 x1)] rfl (fun _ => rfl) rfl ?_
  refine dg_s (pc' := 6) [.long (2 : Int64), .long (0 : Int64), .long (Int32.toInt64 x1)] rfl (fun _ => rfl) rfl ?_
  refine dg_s (pc' := 9) [.int (d_X10_in (Int32.toInt64 x1) (0 : Int64) (2 : Int64) m)] rfl (fun _ => rfl) rfl ?_
  refine dw_if (fun t => Φ t) (¬ (Int32.toInt (d_X10_in (Int32.toInt64 x1) (0 : Int64) (2 : Int64) m)) = 0) [] 14 12 rfl (fun _ => rfl) (fun c0 => ?_) (fun c0 => ?_)
  · refine dw_g rfl ?_
    refine dg_s (pc' := 15) [.ref x0] rfl (fun _ => rfl) rfl ?_
    refine dw_b (fun t => Φ t) (pc' := 18) (fun q1 => [.int q1.1]) (fun q1 => q1.2) rfl (fun _ => rfl) (fun q1 => ?_)
    refine dw_g rfl ?_
    refine dw_if (fun t => Φ t) (¬ (Int32.toInt q1.1) = 0) [] 24 21 rfl (fun _ => rfl) (fun c1 => ?_) (fun c1 => ?_)
    · refine dw_g rfl ?_
      refine dg_s (pc' := 25) [.ref x0] rfl (fun _ => rfl) rfl ?_
      refine dg_s (pc' := 26) [.int (0 : Int32), .ref x0] rfl (fun _ => rfl) rfl ?_
      refine dg_s (pc' := 27) [.int (1 : Int32), .int (0 : Int32), .ref x0] rfl (fun _ => rfl) rfl ?_
      refine dw_b (fun t => Φ t) (pc' := 30) (fun q2 => [.int q2.1]) (fun q2 => q2.2) rfl (fun _ => rfl) (fun q2 => ?_)
      refine dw_g rfl ?_
      refine dw_if (fun t => Φ t) (¬ (Int32.toInt q2.1) = 0) [] 36 33 rfl (fun _ => rfl) (fun c2 => ?_) (fun c2 => ?_)
      · refine dw_g rfl ?_
        refine dg_s (pc' := 37) [.int (0 : Int32)] rfl (fun _ => rfl) rfl ?_
        refine dg_L (pc' := 38) [(2, .int (0 : Int32)), (0, .ref x0), (1, .int x1)] [] rfl (fun _ => rfl) rfl ?_
        refine dg_s (pc' := 39) [.int (1 : Int32)] rfl (fun _ => rfl) rfl ?_
        refine dg_L (pc' := 40) [(3, .int (1 : Int32)), (2, .int (0 : Int32)), (0, .ref x0), (1, .int x1)] [] rfl (fun _ => rfl) rfl ?_
        refine dg_s (pc' := 41) [.int (1 : Int32)] rfl (fun _ => rfl) rfl ?_
        refine dw_L (pc' := 43) [(4, .int (1 : Int32)), (3, .int (1 : Int32)), (2, .int (0 : Int32)), (0, .ref x0), (1, .int x1)] [] rfl (fun _ => rfl) ?_
        exact dw_j rfl (fun lv1 hv => k_X10_beat_l43 (Φ := (fun t => Φ t)) x0 x1 (fun _a _b => kR _a _b) N  (0 : Int32) (1 : Int32) (1 : Int32) q2.2 lv1 (hv.1 _ rfl) (hv.2.1 _ rfl) (hv.2.2.1 _ rfl) (hv.2.2.2.1 _ rfl) (hv.2.2.2.2.1 _ rfl))
      · refine dw_g rfl ?_
        refine dg_s (pc' := 35) [.int (-4 : Int32)] rfl (fun _ => rfl) rfl ?_
        exact dw_r (some (.inl (some (.int (-4 : Int32)), q2.2))) rfl (fun _ => rfl) (kR _ _)
    · refine dw_g rfl ?_
      refine dg_s (pc' := 23) [.int (-2 : Int32)] rfl (fun _ => rfl) rfl ?_
      exact dw_r (some (.inl (some (.int (-2 : Int32)), q1.2))) rfl (fun _ => rfl) (kR _ _)
  · refine dw_g rfl ?_
    refine dg_s (pc' := 13) [.int (-1 : Int32)] rfl (fun _ => rfl) rfl ?_
    exact dw_r (some (.inl (some (.int (-1 : Int32)), m))) rfl (fun _ => rfl) (kR _ _)
noncomputable def H_X10_beat : dc_H := fun As m k => match As with
  | [.ref x0, .int x1] => (d_X10_beat x0 x1 m).bind (fun q => k (some (.int q.1)) q.2)
  | _ => dc_kz
theorem H_X10_beat_ok {u : Nat} : dc_cok u 218 H_X10_beat := fun M' hG N As m k P hz hP => by
  obtain rfl : ab_M_X10_beat = M' := Option.some.inj hG
  unfold H_X10_beat at hP
  split at hP
  · rename_i x0 x1
    exact dc_pv.imp (k_X10_beat (Φ := fun (t : Option (Int32 × dc_M)) r m' => P (t.bind (fun q => k (some (.int q.1)) q.2)) → P (k r m')) x0 x1 m (fun _ _ h => h) rfl rfl) (fun r m' h => h hP)
  · exact absurd hP hz
def C_X10_layEnds : List (Nat × dc_H) := []
theorem CO_X10_layEnds {u : Nat} : dc_CO u C_X10_layEnds := dc_CO_nil
def S_X10_layEnds : List (Nat × List Nat) := [(2, [0, 1, 2]), (51, [0, 1, 2]), (61, [0, 1, 2, 3]), (92, [0, 1, 2, 3, 4, 5, 6, 7]), (130, [0, 1, 2, 3, 4, 5, 6, 7]), (173, [0, 1, 2, 3, 4, 5, 6, 7]), (192, [0, 1, 2, 3, 4, 6, 7, 9]), (210, [0, 1, 2, 3, 4, 5, 7, 9]), (234, [0, 1, 2, 3, 4, 5, 6])]
noncomputable def d_X10_layEnds_b234 (x0 : Nat) (x1 : Int32) (x2 : Int32) (x3 : Int32) (x4 : Int32) (x5 : Int32) (x6 : Int32) (m : dc_M) : Option ((Int32 × dc_M) ⊕ ((Int32 × dc_M) ⊕ dc_M)) :=
  (if (Int32.toInt x6) = 0 then (if (Int32.toInt x5) = 0 then some (Sum.inl ((x3 + (1 : Int32)), (dc_wi m (x0 + 31) (Int32.toNatClampNeg x3) (-2 : Int32)))) else some (Sum.inl ((x3 + (1 : Int32)), (dc_wi m (x0 + 31) (Int32.toNatClampNeg x3) (x4 + (m.1 (x0 + 8) (Int32.toNatClampNeg x3))))))) else some (Sum.inl ((x3 + (1 : Int32)), (dc_wi m (x0 + 31) (Int32.toNatClampNeg x3) (-1 : Int32)))))
set_option maxHeartbeats 8000000 in
theorem k_X10_layEnds_b234 {u : Nat} {N : Nat} {Φ : (Option ((Int32 × dc_M) ⊕ ((Int32 × dc_M) ⊕ dc_M))) → Option Value → dc_M → Prop} (x0 : Nat) (x1 : Int32) (x2 : Int32) (x3 : Int32) (x4 : Int32) (x5 : Int32) (x6 : Int32) (m : dc_M) (kR : ∀  (m : dc_M), Φ (some (Sum.inr (Sum.inr (m)))) (none) m) (k61 : ∀ (x3 : Int32) (m : dc_M) (lv : ab_L), ab_lk lv 0 = some (.ref x0) → ab_lk lv 1 = some (.int x1) → ab_lk lv 2 = some (.int x2) → ab_lk lv 3 = some (.int x3) →  dc_pv u N ab_M_X10_layEnds 61 lv [] m (Φ (some (Sum.inl (x3, m))))) (k51 : ∀ (x2 : Int32) (m : dc_M) (lv : ab_L), ab_lk lv 0 = some (.ref x0) → ab_lk lv 1 = some (.int x1) → ab_lk lv 2 = some (.int x2) →  dc_pv u N ab_M_X10_layEnds 51 lv [] m (Φ (some (Sum.inr (Sum.inl (x2, m)))))) {lv : ab_L} (f0 : ab_lk lv 0 = some (.ref x0)) (f1 : ab_lk lv 1 = some (.int x1)) (f2 : ab_lk lv 2 = some (.int x2)) (f3 : ab_lk lv 3 = some (.int x3)) (f4 : ab_lk lv 4 = some (.int x4)) (f5 : ab_lk lv 5 = some (.int x5)) (f6 : ab_lk lv 6 = some (.int x6)) : dc_pv u N ab_M_X10_layEnds 234 lv [] m (Φ (d_X10_layEnds_b234 x0 x1 x2 x3 x4 x5 x6 m)) := by
  refine dc_pv.mono (dc_ok (C := C_X10_layEnds) (S := S_X10_layEnds) CO_X10_layEnds 400 234 [(0, .ref x0), (1, .int x1), (2, .int x2), (3, .int x3), (4, .int x4), (5, .int x5), (6, .int x6)] lv [] m (dc_sub_cons f0 (dc_sub_cons f1 (dc_sub_cons f2 (dc_sub_cons f3 (dc_sub_cons f4 (dc_sub_cons f5 (dc_sub_cons f6 (dc_sub_nil)))))))) ?_) (Nat.le_succ N)
  unfold d_X10_layEnds_b234
  refine dg_s (pc' := 235) [.ref x0] rfl (fun _ => rfl) rfl ?_
  refine dg_s (pc' := 238) [.ref (x0 + 31)] rfl (fun _ => rfl) rfl ?_
  refine dg_s (pc' := 239) [.int x3, .ref (x0 + 31)] rfl (fun _ => rfl) rfl ?_
  refine dg_s (pc' := 241) [.int x6, .int x3, .ref (x0 + 31)] rfl (fun _ => rfl) rfl ?_
  refine dw_if (fun t => Φ t) ((Int32.toInt x6) = 0) [.int x3, .ref (x0 + 31)] 248 244 rfl (fun _ => rfl) (fun c0 => ?_) (fun c0 => ?_)
  · refine dw_g rfl ?_
    refine dg_s (pc' := 250) [.int x5, .int x3, .ref (x0 + 31)] rfl (fun _ => rfl) rfl ?_
    refine dw_if (fun t => Φ t) ((Int32.toInt x5) = 0) [.int x3, .ref (x0 + 31)] 265 253 rfl (fun _ => rfl) (fun c1 => ?_) (fun c1 => ?_)
    · refine dw_g rfl ?_
      refine dg_s (pc' := 267) [.int (-2 : Int32), .int x3, .ref (x0 + 31)] rfl (fun _ => rfl) rfl ?_
      refine dg_m (pc' := 268) (dc_wi m (x0 + 31) (Int32.toNatClampNeg x3) (-2 : Int32)) [] rfl (fun _ => rfl) rfl ?_
      refine dg_L (pc' := 271) [(3, .int (x3 + (1 : Int32))), (0, .ref x0), (1, .int x1), (2, .int x2), (4, .int x4), (5, .int x5), (6, .int x6)] [] rfl (fun _ => rfl) rfl ?_
      refine dw_s (pc' := 61) [] rfl (fun _ => rfl) ?_
      exact dw_j rfl (fun lv1 hv => k61 (x3 + (1 : Int32)) (dc_wi m (x0 + 31) (Int32.toNatClampNeg x3) (-2 : Int32)) lv1 (hv.1 _ rfl) (hv.2.1 _ rfl) (hv.2.2.1 _ rfl) (hv.2.2.2.1 _ rfl))
    · refine dw_g rfl ?_
      refine dg_s (pc' := 255) [.int x4, .int x3, .ref (x0 + 31)] rfl (fun _ => rfl) rfl ?_
      refine dg_s (pc' := 256) [.ref x0, .int x4, .int x3, .ref (x0 + 31)] rfl (fun _ => rfl) rfl ?_
      refine dg_s (pc' := 259) [.ref (x0 + 8), .int x4, .int x3, .ref (x0 + 31)] rfl (fun _ => rfl) rfl ?_
      refine dg_s (pc' := 260) [.int x3, .ref (x0 + 8), .int x4, .int x3, .ref (x0 + 31)] rfl (fun _ => rfl) rfl ?_
      refine dg_s (pc' := 261) [.int (m.1 (x0 + 8) (Int32.toNatClampNeg x3)), .int x4, .int x3, .ref (x0 + 31)] rfl (fun _ => rfl) rfl ?_
      refine dg_s (pc' := 262) [.int (x4 + (m.1 (x0 + 8) (Int32.toNatClampNeg x3))), .int x3, .ref (x0 + 31)] rfl (fun _ => rfl) rfl ?_
      refine dg_s (pc' := 267) [.int (x4 + (m.1 (x0 + 8) (Int32.toNatClampNeg x3))), .int x3, .ref (x0 + 31)] rfl (fun _ => rfl) rfl ?_
      refine dg_m (pc' := 268) (dc_wi m (x0 + 31) (Int32.toNatClampNeg x3) (x4 + (m.1 (x0 + 8) (Int32.toNatClampNeg x3)))) [] rfl (fun _ => rfl) rfl ?_
      refine dg_L (pc' := 271) [(3, .int (x3 + (1 : Int32))), (0, .ref x0), (1, .int x1), (2, .int x2), (4, .int x4), (5, .int x5), (6, .int x6)] [] rfl (fun _ => rfl) rfl ?_
      refine dw_s (pc' := 61) [] rfl (fun _ => rfl) ?_
      exact dw_j rfl (fun lv1 hv => k61 (x3 + (1 : Int32)) (dc_wi m (x0 + 31) (Int32.toNatClampNeg x3) (x4 + (m.1 (x0 + 8) (Int32.toNatClampNeg x3)))) lv1 (hv.1 _ rfl) (hv.2.1 _ rfl) (hv.2.2.1 _ rfl) (hv.2.2.2.1 _ rfl))
  · refine dw_g rfl ?_
    refine dg_s (pc' := 245) [.int (-1 : Int32), .int x3, .ref (x0 + 31)] rfl (fun _ => rfl) rfl ?_
    refine dg_s (pc' := 267) [.int (-1 : Int32), .int x3, .ref (x0 + 31)] rfl (fun _ => rfl) rfl ?_
    refine dg_m (pc' := 268) (dc_wi m (x0 + 31) (Int32.toNatClampNeg x3) (-1 : Int32)) [] rfl (fun _ => rfl) rfl ?_
    refine dg_L (pc' := 271) [(3, .int (x3 + (1 : Int32))), (0, .ref x0), (1, .int x1), (2, .int x2), (4, .int x4), (5, .int x5), (6, .int x6)] [] rfl (fun _ => rfl) rfl ?_
    refine dw_s (pc' := 61) [] rfl (fun _ => rfl) ?_
    exact dw_j rfl (fun lv1 hv => k61 (x3 + (1 : Int32)) (dc_wi m (x0 + 31) (Int32.toNatClampNeg x3) (-1 : Int32)) lv1 (hv.1 _ rfl) (hv.2.1 _ rfl) (hv.2.2.1 _ rfl) (hv.2.2.2.1 _ rfl))
noncomputable def d_X10_layEnds_b210 (x0 : Nat) (x1 : Int32) (x2 : Int32) (x3 : Int32) (x4 : Int32) (x5 : Int32) (x7 : Int32) (x9 : Int32) (s0 : Int32) (m : dc_M) : Option ((Int32 × Int32 × Int32 × Int32) ⊕ ((Int32 × dc_M) ⊕ ((Int32 × dc_M) ⊕ dc_M))) :=
  (if (Int32.toInt x9) ≤ (Int32.toInt x4) then some (Sum.inl (x4, x5, s0, (x7 + (1 : Int32)))) else some (Sum.inl (x9, x5, s0, (x7 + (1 : Int32)))))
set_option maxHeartbeats 8000000 in
theorem k_X10_layEnds_b210 {u : Nat} {N : Nat} {Φ : (Option ((Int32 × Int32 × Int32 × Int32) ⊕ ((Int32 × dc_M) ⊕ ((Int32 × dc_M) ⊕ dc_M)))) → Option Value → dc_M → Prop} (x0 : Nat) (x1 : Int32) (x2 : Int32) (x3 : Int32) (x4 : Int32) (x5 : Int32) (x7 : Int32) (x9 : Int32) (s0 : Int32) (m : dc_M) (kR : ∀  (m : dc_M), Φ (some (Sum.inr (Sum.inr (Sum.inr (m))))) (none) m) (k92 : ∀ (x4 : Int32) (x5 : Int32) (x6 : Int32) (x7 : Int32) (lv : ab_L), ab_lk lv 0 = some (.ref x0) → ab_lk lv 1 = some (.int x1) → ab_lk lv 2 = some (.int x2) → ab_lk lv 3 = some (.int x3) → ab_lk lv 4 = some (.int x4) → ab_lk lv 5 = some (.int x5) → ab_lk lv 6 = some (.int x6) → ab_lk lv 7 = some (.int x7) →  dc_pv u N ab_M_X10_layEnds 92 lv [] m (Φ (some (Sum.inl (x4, x5, x6, x7))))) (k61 : ∀ (x3 : Int32) (m : dc_M) (lv : ab_L), ab_lk lv 0 = some (.ref x0) → ab_lk lv 1 = some (.int x1) → ab_lk lv 2 = some (.int x2) → ab_lk lv 3 = some (.int x3) →  dc_pv u N ab_M_X10_layEnds 61 lv [] m (Φ (some (Sum.inr (Sum.inl (x3, m)))))) (k51 : ∀ (x2 : Int32) (m : dc_M) (lv : ab_L), ab_lk lv 0 = some (.ref x0) → ab_lk lv 1 = some (.int x1) → ab_lk lv 2 = some (.int x2) →  dc_pv u N ab_M_X10_layEnds 51 lv [] m (Φ (some (Sum.inr (Sum.inr (Sum.inl (x2, m))))))) {lv : ab_L} (f0 : ab_lk lv 0 = some (.ref x0)) (f1 : ab_lk lv 1 = some (.int x1)) (f2 : ab_lk lv 2 = some (.int x2)) (f3 : ab_lk lv 3 = some (.int x3)) (f4 : ab_lk lv 4 = some (.int x4)) (f5 : ab_lk lv 5 = some (.int x5)) (f7 : ab_lk lv 7 = some (.int x7)) (f9 : ab_lk lv 9 = some (.int x9)) : dc_pv u N ab_M_X10_layEnds 210 lv [.int s0] m (Φ (d_X10_layEnds_b210 x0 x1 x2 x3 x4 x5 x7 x9 s0 m)) := by
  refine dc_pv.mono (dc_ok (C := C_X10_layEnds) (S := S_X10_layEnds) CO_X10_layEnds 400 210 [(0, .ref x0), (1, .int x1), (2, .int x2), (3, .int x3), (4, .int x4), (5, .int x5), (7, .int x7), (9, .int x9)] lv [.int s0] m (dc_sub_cons f0 (dc_sub_cons f1 (dc_sub_cons f2 (dc_sub_cons f3 (dc_sub_cons f4 (dc_sub_cons f5 (dc_sub_cons f7 (dc_sub_cons f9 (dc_sub_nil))))))))) ?_) (Nat.le_succ N)
  unfold d_X10_layEnds_b210
  refine dg_L (pc' := 212) [(6, .int s0), (0, .ref x0), (1, .int x1), (2, .int x2), (3, .int x3), (4, .int x4), (5, .int x5), (7, .int x7), (9, .int x9)] [] rfl (fun _ => rfl) rfl ?_
  refine dg_s (pc' := 214) [.int x9] rfl (fun _ => rfl) rfl ?_
  refine dg_s (pc' := 216) [.int x4, .int x9] rfl (fun _ => rfl) rfl ?_
  refine dw_if (fun t => Φ t) ((Int32.toInt x9) ≤ (Int32.toInt x4)) [] 224 219 rfl (fun _ => rfl) (fun c0 => ?_) (fun c0 => ?_)
  · refine dw_g rfl ?_
    refine dg_s (pc' := 226) [.int x4] rfl (fun _ => rfl) rfl ?_
    refine dg_L (pc' := 228) [(4, .int x4), (6, .int s0), (0, .ref x0), (1, .int x1), (2, .int x2), (3, .int x3), (5, .int x5), (7, .int x7), (9, .int x9)] [] rfl (fun _ => rfl) rfl ?_
    refine dg_L (pc' := 231) [(7, .int (x7 + (1 : Int32))), (4, .int x4), (6, .int s0), (0, .ref x0), (1, .int x1), (2, .int x2), (3, .int x3), (5, .int x5), (9, .int x9)] [] rfl (fun _ => rfl) rfl ?_
    refine dw_s (pc' := 92) [] rfl (fun _ => rfl) ?_
    exact dw_j rfl (fun lv1 hv => k92 x4 x5 s0 (x7 + (1 : Int32)) lv1 (hv.1 _ rfl) (hv.2.1 _ rfl) (hv.2.2.1 _ rfl) (hv.2.2.2.1 _ rfl) (hv.2.2.2.2.1 _ rfl) (hv.2.2.2.2.2.1 _ rfl) (hv.2.2.2.2.2.2.1 _ rfl) (hv.2.2.2.2.2.2.2.1 _ rfl))
  · refine dw_g rfl ?_
    refine dg_s (pc' := 221) [.int x9] rfl (fun _ => rfl) rfl ?_
    refine dg_s (pc' := 226) [.int x9] rfl (fun _ => rfl) rfl ?_
    refine dg_L (pc' := 228) [(4, .int x9), (6, .int s0), (0, .ref x0), (1, .int x1), (2, .int x2), (3, .int x3), (5, .int x5), (7, .int x7), (9, .int x9)] [] rfl (fun _ => rfl) rfl ?_
    refine dg_L (pc' := 231) [(7, .int (x7 + (1 : Int32))), (4, .int x9), (6, .int s0), (0, .ref x0), (1, .int x1), (2, .int x2), (3, .int x3), (5, .int x5), (9, .int x9)] [] rfl (fun _ => rfl) rfl ?_
    refine dw_s (pc' := 92) [] rfl (fun _ => rfl) ?_
    exact dw_j rfl (fun lv1 hv => k92 x9 x5 s0 (x7 + (1 : Int32)) lv1 (hv.1 _ rfl) (hv.2.1 _ rfl) (hv.2.2.1 _ rfl) (hv.2.2.2.1 _ rfl) (hv.2.2.2.2.1 _ rfl) (hv.2.2.2.2.2.1 _ rfl) (hv.2.2.2.2.2.2.1 _ rfl) (hv.2.2.2.2.2.2.2.1 _ rfl))
noncomputable def d_X10_layEnds_b192 (x0 : Nat) (x1 : Int32) (x2 : Int32) (x3 : Int32) (x4 : Int32) (x6 : Int32) (x7 : Int32) (x9 : Int32) (s0 : Int32) (m : dc_M) : Option ((Int32 × Int32 × Int32 × Int32) ⊕ ((Int32 × dc_M) ⊕ ((Int32 × dc_M) ⊕ dc_M))) :=
  (if ¬ (Int32.toInt x6) = 0 then (d_X10_layEnds_b210 x0 x1 x2 x3 x4 s0 x7 x9 (1 : Int32) m) else (if ¬ (Int32.toInt x9) = (-1) then (d_X10_layEnds_b210 x0 x1 x2 x3 x4 s0 x7 x9 (0 : Int32) m) else (d_X10_layEnds_b210 x0 x1 x2 x3 x4 s0 x7 x9 (1 : Int32) m)))
set_option maxHeartbeats 8000000 in
theorem k_X10_layEnds_b192 {u : Nat} {N : Nat} {Φ : (Option ((Int32 × Int32 × Int32 × Int32) ⊕ ((Int32 × dc_M) ⊕ ((Int32 × dc_M) ⊕ dc_M)))) → Option Value → dc_M → Prop} (x0 : Nat) (x1 : Int32) (x2 : Int32) (x3 : Int32) (x4 : Int32) (x6 : Int32) (x7 : Int32) (x9 : Int32) (s0 : Int32) (m : dc_M) (kR : ∀  (m : dc_M), Φ (some (Sum.inr (Sum.inr (Sum.inr (m))))) (none) m) (k92 : ∀ (x4 : Int32) (x5 : Int32) (x6 : Int32) (x7 : Int32) (lv : ab_L), ab_lk lv 0 = some (.ref x0) → ab_lk lv 1 = some (.int x1) → ab_lk lv 2 = some (.int x2) → ab_lk lv 3 = some (.int x3) → ab_lk lv 4 = some (.int x4) → ab_lk lv 5 = some (.int x5) → ab_lk lv 6 = some (.int x6) → ab_lk lv 7 = some (.int x7) →  dc_pv u N ab_M_X10_layEnds 92 lv [] m (Φ (some (Sum.inl (x4, x5, x6, x7))))) (k61 : ∀ (x3 : Int32) (m : dc_M) (lv : ab_L), ab_lk lv 0 = some (.ref x0) → ab_lk lv 1 = some (.int x1) → ab_lk lv 2 = some (.int x2) → ab_lk lv 3 = some (.int x3) →  dc_pv u N ab_M_X10_layEnds 61 lv [] m (Φ (some (Sum.inr (Sum.inl (x3, m)))))) (k51 : ∀ (x2 : Int32) (m : dc_M) (lv : ab_L), ab_lk lv 0 = some (.ref x0) → ab_lk lv 1 = some (.int x1) → ab_lk lv 2 = some (.int x2) →  dc_pv u N ab_M_X10_layEnds 51 lv [] m (Φ (some (Sum.inr (Sum.inr (Sum.inl (x2, m))))))) {lv : ab_L} (f0 : ab_lk lv 0 = some (.ref x0)) (f1 : ab_lk lv 1 = some (.int x1)) (f2 : ab_lk lv 2 = some (.int x2)) (f3 : ab_lk lv 3 = some (.int x3)) (f4 : ab_lk lv 4 = some (.int x4)) (f6 : ab_lk lv 6 = some (.int x6)) (f7 : ab_lk lv 7 = some (.int x7)) (f9 : ab_lk lv 9 = some (.int x9)) : dc_pv u N ab_M_X10_layEnds 192 lv [.int s0] m (Φ (d_X10_layEnds_b192 x0 x1 x2 x3 x4 x6 x7 x9 s0 m)) := by
  refine dc_pv.mono (dc_ok (C := C_X10_layEnds) (S := S_X10_layEnds) CO_X10_layEnds 400 192 [(0, .ref x0), (1, .int x1), (2, .int x2), (3, .int x3), (4, .int x4), (6, .int x6), (7, .int x7), (9, .int x9)] lv [.int s0] m (dc_sub_cons f0 (dc_sub_cons f1 (dc_sub_cons f2 (dc_sub_cons f3 (dc_sub_cons f4 (dc_sub_cons f6 (dc_sub_cons f7 (dc_sub_cons f9 (dc_sub_nil))))))))) ?_) (Nat.le_succ N)
  unfold d_X10_layEnds_b192
  refine dg_L (pc' := 194) [(5, .int s0), (0, .ref x0), (1, .int x1), (2, .int x2), (3, .int x3), (4, .int x4), (6, .int x6), (7, .int x7), (9, .int x9)] [] rfl (fun _ => rfl) rfl ?_
  refine dg_s (pc' := 196) [.int x6] rfl (fun _ => rfl) rfl ?_
  refine dw_if (fun t => Φ t) (¬ (Int32.toInt x6) = 0) [] 205 199 rfl (fun _ => rfl) (fun c0 => ?_) (fun c0 => ?_)
  · refine dw_g rfl ?_
    refine dg_s (pc' := 206) [.int (1 : Int32)] rfl (fun _ => rfl) rfl ?_
    refine dw_s (pc' := 210) [.int (1 : Int32)] rfl (fun _ => rfl) ?_
    exact dw_j rfl (fun lv1 hv => k_X10_layEnds_b210 (Φ := (fun t => Φ t)) x0 x1 x2 x3 x4 s0 x7 x9 (1 : Int32) m (fun _b => kR _b) k92 k61 k51 (hv.1 _ rfl) (hv.2.1 _ rfl) (hv.2.2.1 _ rfl) (hv.2.2.2.1 _ rfl) (hv.2.2.2.2.1 _ rfl) (hv.2.2.2.2.2.1 _ rfl) (hv.2.2.2.2.2.2.1 _ rfl) (hv.2.2.2.2.2.2.2.1 _ rfl))
  · refine dw_g rfl ?_
    refine dg_s (pc' := 201) [.int x9] rfl (fun _ => rfl) rfl ?_
    refine dg_s (pc' := 202) [.int (-1 : Int32), .int x9] rfl (fun _ => rfl) rfl ?_
    refine dw_if (fun t => Φ t) (¬ (Int32.toInt x9) = (-1)) [] 209 205 rfl (fun _ => rfl) (fun c1 => ?_) (fun c1 => ?_)
    · refine dw_g rfl ?_
      refine dw_s (pc' := 210) [.int (0 : Int32)] rfl (fun _ => rfl) ?_
      exact dw_j rfl (fun lv1 hv => k_X10_layEnds_b210 (Φ := (fun t => Φ t)) x0 x1 x2 x3 x4 s0 x7 x9 (0 : Int32) m (fun _b => kR _b) k92 k61 k51 (hv.1 _ rfl) (hv.2.1 _ rfl) (hv.2.2.1 _ rfl) (hv.2.2.2.1 _ rfl) (hv.2.2.2.2.1 _ rfl) (hv.2.2.2.2.2.1 _ rfl) (hv.2.2.2.2.2.2.1 _ rfl) (hv.2.2.2.2.2.2.2.1 _ rfl))
    · refine dw_g rfl ?_
      refine dg_s (pc' := 206) [.int (1 : Int32)] rfl (fun _ => rfl) rfl ?_
      refine dw_s (pc' := 210) [.int (1 : Int32)] rfl (fun _ => rfl) ?_
      exact dw_j rfl (fun lv1 hv => k_X10_layEnds_b210 (Φ := (fun t => Φ t)) x0 x1 x2 x3 x4 s0 x7 x9 (1 : Int32) m (fun _b => kR _b) k92 k61 k51 (hv.1 _ rfl) (hv.2.1 _ rfl) (hv.2.2.1 _ rfl) (hv.2.2.2.1 _ rfl) (hv.2.2.2.2.1 _ rfl) (hv.2.2.2.2.2.1 _ rfl) (hv.2.2.2.2.2.2.1 _ rfl) (hv.2.2.2.2.2.2.2.1 _ rfl))
noncomputable def d_X10_layEnds_b173 (x0 : Nat) (x1 : Int32) (x2 : Int32) (x3 : Int32) (x4 : Int32) (x5 : Int32) (x6 : Int32) (x7 : Int32) (s0 : Int32) (m : dc_M) : Option ((Int32 × Int32 × Int32 × Int32) ⊕ ((Int32 × dc_M) ⊕ ((Int32 × dc_M) ⊕ dc_M))) :=
  (if (Int32.toInt x5) = 0 then (d_X10_layEnds_b192 x0 x1 x2 x3 x4 x6 x7 s0 (0 : Int32) m) else (if (Int32.toInt s0) = (-2) then (d_X10_layEnds_b192 x0 x1 x2 x3 x4 x6 x7 s0 (0 : Int32) m) else (d_X10_layEnds_b192 x0 x1 x2 x3 x4 x6 x7 s0 (1 : Int32) m)))
set_option maxHeartbeats 8000000 in
theorem k_X10_layEnds_b173 {u : Nat} {N : Nat} {Φ : (Option ((Int32 × Int32 × Int32 × Int32) ⊕ ((Int32 × dc_M) ⊕ ((Int32 × dc_M) ⊕ dc_M)))) → Option Value → dc_M → Prop} (x0 : Nat) (x1 : Int32) (x2 : Int32) (x3 : Int32) (x4 : Int32) (x5 : Int32) (x6 : Int32) (x7 : Int32) (s0 : Int32) (m : dc_M) (kR : ∀  (m : dc_M), Φ (some (Sum.inr (Sum.inr (Sum.inr (m))))) (none) m) (k92 : ∀ (x4 : Int32) (x5 : Int32) (x6 : Int32) (x7 : Int32) (lv : ab_L), ab_lk lv 0 = some (.ref x0) → ab_lk lv 1 = some (.int x1) → ab_lk lv 2 = some (.int x2) → ab_lk lv 3 = some (.int x3) → ab_lk lv 4 = some (.int x4) → ab_lk lv 5 = some (.int x5) → ab_lk lv 6 = some (.int x6) → ab_lk lv 7 = some (.int x7) →  dc_pv u N ab_M_X10_layEnds 92 lv [] m (Φ (some (Sum.inl (x4, x5, x6, x7))))) (k61 : ∀ (x3 : Int32) (m : dc_M) (lv : ab_L), ab_lk lv 0 = some (.ref x0) → ab_lk lv 1 = some (.int x1) → ab_lk lv 2 = some (.int x2) → ab_lk lv 3 = some (.int x3) →  dc_pv u N ab_M_X10_layEnds 61 lv [] m (Φ (some (Sum.inr (Sum.inl (x3, m)))))) (k51 : ∀ (x2 : Int32) (m : dc_M) (lv : ab_L), ab_lk lv 0 = some (.ref x0) → ab_lk lv 1 = some (.int x1) → ab_lk lv 2 = some (.int x2) →  dc_pv u N ab_M_X10_layEnds 51 lv [] m (Φ (some (Sum.inr (Sum.inr (Sum.inl (x2, m))))))) {lv : ab_L} (f0 : ab_lk lv 0 = some (.ref x0)) (f1 : ab_lk lv 1 = some (.int x1)) (f2 : ab_lk lv 2 = some (.int x2)) (f3 : ab_lk lv 3 = some (.int x3)) (f4 : ab_lk lv 4 = some (.int x4)) (f5 : ab_lk lv 5 = some (.int x5)) (f6 : ab_lk lv 6 = some (.int x6)) (f7 : ab_lk lv 7 = some (.int x7)) : dc_pv u N ab_M_X10_layEnds 173 lv [.int s0] m (Φ (d_X10_layEnds_b173 x0 x1 x2 x3 x4 x5 x6 x7 s0 m)) := by
  refine dc_pv.mono (dc_ok (C := C_X10_layEnds) (S := S_X10_layEnds) CO_X10_layEnds 400 173 [(0, .ref x0), (1, .int x1), (2, .int x2), (3, .int x3), (4, .int x4), (5, .int x5), (6, .int x6), (7, .int x7)] lv [.int s0] m (dc_sub_cons f0 (dc_sub_cons f1 (dc_sub_cons f2 (dc_sub_cons f3 (dc_sub_cons f4 (dc_sub_cons f5 (dc_sub_cons f6 (dc_sub_cons f7 (dc_sub_nil))))))))) ?_) (Nat.le_succ N)
  unfold d_X10_layEnds_b173
  refine dg_L (pc' := 175) [(9, .int s0), (0, .ref x0), (1, .int x1), (2, .int x2), (3, .int x3), (4, .int x4), (5, .int x5), (6, .int x6), (7, .int x7)] [] rfl (fun _ => rfl) rfl ?_
  refine dg_s (pc' := 177) [.int x5] rfl (fun _ => rfl) rfl ?_
  refine dw_if (fun t => Φ t) ((Int32.toInt x5) = 0) [] 191 180 rfl (fun _ => rfl) (fun c0 => ?_) (fun c0 => ?_)
  · refine dw_g rfl ?_
    refine dw_s (pc' := 192) [.int (0 : Int32)] rfl (fun _ => rfl) ?_
    exact dw_j rfl (fun lv1 hv => k_X10_layEnds_b192 (Φ := (fun t => Φ t)) x0 x1 x2 x3 x4 x6 x7 s0 (0 : Int32) m (fun _b => kR _b) k92 k61 k51 (hv.1 _ rfl) (hv.2.1 _ rfl) (hv.2.2.1 _ rfl) (hv.2.2.2.1 _ rfl) (hv.2.2.2.2.1 _ rfl) (hv.2.2.2.2.2.1 _ rfl) (hv.2.2.2.2.2.2.1 _ rfl) (hv.2.2.2.2.2.2.2.1 _ rfl))
  · refine dw_g rfl ?_
    refine dg_s (pc' := 182) [.int s0] rfl (fun _ => rfl) rfl ?_
    refine dg_s (pc' := 184) [.int (-2 : Int32), .int s0] rfl (fun _ => rfl) rfl ?_
    refine dw_if (fun t => Φ t) ((Int32.toInt s0) = (-2)) [] 191 187 rfl (fun _ => rfl) (fun c1 => ?_) (fun c1 => ?_)
    · refine dw_g rfl ?_
      refine dw_s (pc' := 192) [.int (0 : Int32)] rfl (fun _ => rfl) ?_
      exact dw_j rfl (fun lv1 hv => k_X10_layEnds_b192 (Φ := (fun t => Φ t)) x0 x1 x2 x3 x4 x6 x7 s0 (0 : Int32) m (fun _b => kR _b) k92 k61 k51 (hv.1 _ rfl) (hv.2.1 _ rfl) (hv.2.2.1 _ rfl) (hv.2.2.2.1 _ rfl) (hv.2.2.2.2.1 _ rfl) (hv.2.2.2.2.2.1 _ rfl) (hv.2.2.2.2.2.2.1 _ rfl) (hv.2.2.2.2.2.2.2.1 _ rfl))
    · refine dw_g rfl ?_
      refine dg_s (pc' := 188) [.int (1 : Int32)] rfl (fun _ => rfl) rfl ?_
      refine dw_s (pc' := 192) [.int (1 : Int32)] rfl (fun _ => rfl) ?_
      exact dw_j rfl (fun lv1 hv => k_X10_layEnds_b192 (Φ := (fun t => Φ t)) x0 x1 x2 x3 x4 x6 x7 s0 (1 : Int32) m (fun _b => kR _b) k92 k61 k51 (hv.1 _ rfl) (hv.2.1 _ rfl) (hv.2.2.1 _ rfl) (hv.2.2.2.1 _ rfl) (hv.2.2.2.2.1 _ rfl) (hv.2.2.2.2.2.1 _ rfl) (hv.2.2.2.2.2.2.1 _ rfl) (hv.2.2.2.2.2.2.2.1 _ rfl))
noncomputable def d_X10_layEnds_b130 (x0 : Nat) (x1 : Int32) (x2 : Int32) (x3 : Int32) (x4 : Int32) (x5 : Int32) (x6 : Int32) (x7 : Int32) (s0 : Int32) (m : dc_M) : Option ((Int32 × Int32 × Int32 × Int32) ⊕ ((Int32 × dc_M) ⊕ ((Int32 × dc_M) ⊕ dc_M))) :=
  (if (Int32.toInt s0) = 0 then (d_X10_layEnds_b173 x0 x1 x2 x3 x4 x5 x6 x7 (m.1 (x0 + 31) (Int32.toNatClampNeg (m.1 (x0 + 29) (Int32.toNatClampNeg x7)))) m) else (if ¬ (Int32.toInt x1) = 1 then (d_X10_layEnds_b173 x0 x1 x2 x3 x4 x5 x6 x7 (m.1 (x0 + 32) (Int32.toNatClampNeg (m.1 (x0 + 29) (Int32.toNatClampNeg x7)))) m) else (d_X10_layEnds_b173 x0 x1 x2 x3 x4 x5 x6 x7 (0 : Int32) m)))
set_option maxHeartbeats 8000000 in
theorem k_X10_layEnds_b130 {u : Nat} {N : Nat} {Φ : (Option ((Int32 × Int32 × Int32 × Int32) ⊕ ((Int32 × dc_M) ⊕ ((Int32 × dc_M) ⊕ dc_M)))) → Option Value → dc_M → Prop} (x0 : Nat) (x1 : Int32) (x2 : Int32) (x3 : Int32) (x4 : Int32) (x5 : Int32) (x6 : Int32) (x7 : Int32) (s0 : Int32) (m : dc_M) (kR : ∀  (m : dc_M), Φ (some (Sum.inr (Sum.inr (Sum.inr (m))))) (none) m) (k92 : ∀ (x4 : Int32) (x5 : Int32) (x6 : Int32) (x7 : Int32) (lv : ab_L), ab_lk lv 0 = some (.ref x0) → ab_lk lv 1 = some (.int x1) → ab_lk lv 2 = some (.int x2) → ab_lk lv 3 = some (.int x3) → ab_lk lv 4 = some (.int x4) → ab_lk lv 5 = some (.int x5) → ab_lk lv 6 = some (.int x6) → ab_lk lv 7 = some (.int x7) →  dc_pv u N ab_M_X10_layEnds 92 lv [] m (Φ (some (Sum.inl (x4, x5, x6, x7))))) (k61 : ∀ (x3 : Int32) (m : dc_M) (lv : ab_L), ab_lk lv 0 = some (.ref x0) → ab_lk lv 1 = some (.int x1) → ab_lk lv 2 = some (.int x2) → ab_lk lv 3 = some (.int x3) →  dc_pv u N ab_M_X10_layEnds 61 lv [] m (Φ (some (Sum.inr (Sum.inl (x3, m)))))) (k51 : ∀ (x2 : Int32) (m : dc_M) (lv : ab_L), ab_lk lv 0 = some (.ref x0) → ab_lk lv 1 = some (.int x1) → ab_lk lv 2 = some (.int x2) →  dc_pv u N ab_M_X10_layEnds 51 lv [] m (Φ (some (Sum.inr (Sum.inr (Sum.inl (x2, m))))))) {lv : ab_L} (f0 : ab_lk lv 0 = some (.ref x0)) (f1 : ab_lk lv 1 = some (.int x1)) (f2 : ab_lk lv 2 = some (.int x2)) (f3 : ab_lk lv 3 = some (.int x3)) (f4 : ab_lk lv 4 = some (.int x4)) (f5 : ab_lk lv 5 = some (.int x5)) (f6 : ab_lk lv 6 = some (.int x6)) (f7 : ab_lk lv 7 = some (.int x7)) : dc_pv u N ab_M_X10_layEnds 130 lv [.int s0] m (Φ (d_X10_layEnds_b130 x0 x1 x2 x3 x4 x5 x6 x7 s0 m)) := by
  refine dc_pv.mono (dc_ok (C := C_X10_layEnds) (S := S_X10_layEnds) CO_X10_layEnds 400 130 [(0, .ref x0), (1, .int x1), (2, .int x2), (3, .int x3), (4, .int x4), (5, .int x5), (6, .int x6), (7, .int x7)] lv [.int s0] m (dc_sub_cons f0 (dc_sub_cons f1 (dc_sub_cons f2 (dc_sub_cons f3 (dc_sub_cons f4 (dc_sub_cons f5 (dc_sub_cons f6 (dc_sub_cons f7 (dc_sub_nil))))))))) ?_) (Nat.le_succ N)
  unfold d_X10_layEnds_b130
  refine dg_L (pc' := 132) [(8, .int s0), (0, .ref x0), (1, .int x1), (2, .int x2), (3, .int x3), (4, .int x4), (5, .int x5), (6, .int x6), (7, .int x7)] [] rfl (fun _ => rfl) rfl ?_
  refine dg_s (pc' := 134) [.int s0] rfl (fun _ => rfl) rfl ?_
  refine dw_if (fun t => Φ t) ((Int32.toInt s0) = 0) [] 161 137 rfl (fun _ => rfl) (fun c0 => ?_) (fun c0 => ?_)
  · refine dw_g rfl ?_
    refine dg_s (pc' := 162) [.ref x0] rfl (fun _ => rfl) rfl ?_
    refine dg_s (pc' := 165) [.ref (x0 + 31)] rfl (fun _ => rfl) rfl ?_
    refine dg_s (pc' := 166) [.ref x0, .ref (x0 + 31)] rfl (fun _ => rfl) rfl ?_
    refine dg_s (pc' := 169) [.ref (x0 + 29), .ref (x0 + 31)] rfl (fun _ => rfl) rfl ?_
    refine dg_s (pc' := 171) [.int x7, .ref (x0 + 29), .ref (x0 + 31)] rfl (fun _ => rfl) rfl ?_
    refine dg_s (pc' := 172) [.int (m.1 (x0 + 29) (Int32.toNatClampNeg x7)), .ref (x0 + 31)] rfl (fun _ => rfl) rfl ?_
    refine dw_s (pc' := 173) [.int (m.1 (x0 + 31) (Int32.toNatClampNeg (m.1 (x0 + 29) (Int32.toNatClampNeg x7))))] rfl (fun _ => rfl) ?_
    exact dw_j rfl (fun lv1 hv => k_X10_layEnds_b173 (Φ := (fun t => Φ t)) x0 x1 x2 x3 x4 x5 x6 x7 (m.1 (x0 + 31) (Int32.toNatClampNeg (m.1 (x0 + 29) (Int32.toNatClampNeg x7)))) m (fun _b => kR _b) k92 k61 k51 (hv.1 _ rfl) (hv.2.1 _ rfl) (hv.2.2.1 _ rfl) (hv.2.2.2.1 _ rfl) (hv.2.2.2.2.1 _ rfl) (hv.2.2.2.2.2.1 _ rfl) (hv.2.2.2.2.2.2.1 _ rfl) (hv.2.2.2.2.2.2.2.1 _ rfl))
  · refine dw_g rfl ?_
    refine dg_s (pc' := 138) [.int x1] rfl (fun _ => rfl) rfl ?_
    refine dg_s (pc' := 139) [.int (1 : Int32), .int x1] rfl (fun _ => rfl) rfl ?_
    refine dw_if (fun t => Φ t) (¬ (Int32.toInt x1) = 1) [] 146 142 rfl (fun _ => rfl) (fun c1 => ?_) (fun c1 => ?_)
    · refine dw_g rfl ?_
      refine dg_s (pc' := 147) [.ref x0] rfl (fun _ => rfl) rfl ?_
      refine dg_s (pc' := 150) [.ref (x0 + 32)] rfl (fun _ => rfl) rfl ?_
      refine dg_s (pc' := 151) [.ref x0, .ref (x0 + 32)] rfl (fun _ => rfl) rfl ?_
      refine dg_s (pc' := 154) [.ref (x0 + 29), .ref (x0 + 32)] rfl (fun _ => rfl) rfl ?_
      refine dg_s (pc' := 156) [.int x7, .ref (x0 + 29), .ref (x0 + 32)] rfl (fun _ => rfl) rfl ?_
      refine dg_s (pc' := 157) [.int (m.1 (x0 + 29) (Int32.toNatClampNeg x7)), .ref (x0 + 32)] rfl (fun _ => rfl) rfl ?_
      refine dg_s (pc' := 158) [.int (m.1 (x0 + 32) (Int32.toNatClampNeg (m.1 (x0 + 29) (Int32.toNatClampNeg x7))))] rfl (fun _ => rfl) rfl ?_
      refine dw_s (pc' := 173) [.int (m.1 (x0 + 32) (Int32.toNatClampNeg (m.1 (x0 + 29) (Int32.toNatClampNeg x7))))] rfl (fun _ => rfl) ?_
      exact dw_j rfl (fun lv1 hv => k_X10_layEnds_b173 (Φ := (fun t => Φ t)) x0 x1 x2 x3 x4 x5 x6 x7 (m.1 (x0 + 32) (Int32.toNatClampNeg (m.1 (x0 + 29) (Int32.toNatClampNeg x7)))) m (fun _b => kR _b) k92 k61 k51 (hv.1 _ rfl) (hv.2.1 _ rfl) (hv.2.2.1 _ rfl) (hv.2.2.2.1 _ rfl) (hv.2.2.2.2.1 _ rfl) (hv.2.2.2.2.2.1 _ rfl) (hv.2.2.2.2.2.2.1 _ rfl) (hv.2.2.2.2.2.2.2.1 _ rfl))
    · refine dw_g rfl ?_
      refine dg_s (pc' := 143) [.int (0 : Int32)] rfl (fun _ => rfl) rfl ?_
      refine dw_s (pc' := 173) [.int (0 : Int32)] rfl (fun _ => rfl) ?_
      exact dw_j rfl (fun lv1 hv => k_X10_layEnds_b173 (Φ := (fun t => Φ t)) x0 x1 x2 x3 x4 x5 x6 x7 (0 : Int32) m (fun _b => kR _b) k92 k61 k51 (hv.1 _ rfl) (hv.2.1 _ rfl) (hv.2.2.1 _ rfl) (hv.2.2.2.1 _ rfl) (hv.2.2.2.2.1 _ rfl) (hv.2.2.2.2.2.1 _ rfl) (hv.2.2.2.2.2.2.1 _ rfl) (hv.2.2.2.2.2.2.2.1 _ rfl))
noncomputable def d_X10_layEnds_l92b (x0 : Nat) (x1 : Int32) (x2 : Int32) (x3 : Int32) (x4 : Int32) (x5 : Int32) (x6 : Int32) (x7 : Int32) (m : dc_M) : Option ((Int32 × Int32 × Int32 × Int32) ⊕ ((Int32 × dc_M) ⊕ ((Int32 × dc_M) ⊕ dc_M))) :=
  (if (Int32.toInt (m.1 x0 10)) ≤ (Int32.toInt x7) then ((d_X10_layEnds_b234 x0 x1 x2 x3 x4 x5 x6 m).map (fun z => Sum.inr (z))) else (if ¬ (Int32.toInt (m.1 (x0 + 30) (Int32.toNatClampNeg x7))) = (Int32.toInt x3) then some (Sum.inl (x4, x5, x6, (x7 + (1 : Int32)))) else (if ¬ (Int32.toInt (((m.1 x0 11) >>> (x7 &&& 31)) &&& (1 : Int32))) = 1 then (d_X10_layEnds_b130 x0 x1 x2 x3 x4 x5 x6 x7 (0 : Int32) m) else (d_X10_layEnds_b130 x0 x1 x2 x3 x4 x5 x6 x7 (1 : Int32) m))))
noncomputable def d_X10_layEnds_l92s (x0 : Nat) (x1 : Int32) (x2 : Int32) (x3 : Int32) (m : dc_M) : (Int32 × Int32 × Int32 × Int32) → Option ((Int32 × Int32 × Int32 × Int32) ⊕ ((Int32 × dc_M) ⊕ ((Int32 × dc_M) ⊕ dc_M))) := fun s => d_X10_layEnds_l92b x0 x1 x2 x3 s.1 s.2.1 s.2.2.1 s.2.2.2 m
noncomputable def d_X10_layEnds_l92 (x0 : Nat) (x1 : Int32) (x2 : Int32) (x3 : Int32) (x4 : Int32) (x5 : Int32) (x6 : Int32) (x7 : Int32) (m : dc_M) : Option ((Int32 × dc_M) ⊕ ((Int32 × dc_M) ⊕ dc_M)) := dc_lp (d_X10_layEnds_l92s x0 x1 x2 x3 m) (x4, x5, x6, x7)
set_option maxHeartbeats 8000000 in
theorem k_X10_layEnds_l92 {u : Nat} {Φ : (Option ((Int32 × dc_M) ⊕ ((Int32 × dc_M) ⊕ dc_M))) → Option Value → dc_M → Prop} (x0 : Nat) (x1 : Int32) (x2 : Int32) (x3 : Int32) (m : dc_M) (kR : ∀  (m : dc_M), Φ (some (Sum.inr (Sum.inr (m)))) (none) m) : ∀ (N : Nat), (∀ (x3 : Int32) (m : dc_M) (lv : ab_L), ab_lk lv 0 = some (.ref x0) → ab_lk lv 1 = some (.int x1) → ab_lk lv 2 = some (.int x2) → ab_lk lv 3 = some (.int x3) →  dc_pv u N ab_M_X10_layEnds 61 lv [] m (Φ (some (Sum.inl (x3, m))))) → (∀ (x2 : Int32) (m : dc_M) (lv : ab_L), ab_lk lv 0 = some (.ref x0) → ab_lk lv 1 = some (.int x1) → ab_lk lv 2 = some (.int x2) →  dc_pv u N ab_M_X10_layEnds 51 lv [] m (Φ (some (Sum.inr (Sum.inl (x2, m)))))) → ∀ (x4 : Int32) (x5 : Int32) (x6 : Int32) (x7 : Int32) (lv : ab_L), ab_lk lv 0 = some (.ref x0) → ab_lk lv 1 = some (.int x1) → ab_lk lv 2 = some (.int x2) → ab_lk lv 3 = some (.int x3) → ab_lk lv 4 = some (.int x4) → ab_lk lv 5 = some (.int x5) → ab_lk lv 6 = some (.int x6) → ab_lk lv 7 = some (.int x7) → dc_pv u N ab_M_X10_layEnds 92 lv [] m (Φ (d_X10_layEnds_l92 x0 x1 x2 x3 x4 x5 x6 x7 m)) := by
  intro N
  induction N with
  | zero => intros; exact dc_pv_zero
  | succ N ih =>
    intro k61 k51 x4 x5 x6 x7 lv f0 f1 f2 f3 f4 f5 f6 f7
    have k61 := fun a0 a1 a2 a3 a4 a5 a6 => (k61 a0 a1 a2 a3 a4 a5 a6).mono (Nat.le_succ N)
    have k51 := fun a0 a1 a2 a3 a4 a5 => (k51 a0 a1 a2 a3 a4 a5).mono (Nat.le_succ N)
    have ih := ih k61 k51
    refine dc_ok (C := C_X10_layEnds) (S := S_X10_layEnds) CO_X10_layEnds 400 92 [(0, .ref x0), (1, .int x1), (2, .int x2), (3, .int x3), (4, .int x4), (5, .int x5), (6, .int x6), (7, .int x7)] lv [] m (dc_sub_cons f0 (dc_sub_cons f1 (dc_sub_cons f2 (dc_sub_cons f3 (dc_sub_cons f4 (dc_sub_cons f5 (dc_sub_cons f6 (dc_sub_cons f7 (dc_sub_nil))))))))) ?_
    unfold d_X10_layEnds_l92
    rw [dc_lp_eq]
    show (fun t x => dc_lf u N ab_M_X10_layEnds (Φ (Option.bind t (dc_bk (d_X10_layEnds_l92s x0 x1 x2 x3 m)))) x) (d_X10_layEnds_l92b x0 x1 x2 x3 x4 x5 x6 x7 m) _
    dsimp only
    unfold d_X10_layEnds_l92b
    refine dg_s (pc' := 94) [.int x7] rfl (fun _ => rfl) rfl ?_
    refine dg_s (pc' := 95) [.ref x0, .int x7] rfl (fun _ => rfl) rfl ?_
    refine dg_s (pc' := 98) [.int (m.1 x0 10), .int x7] rfl (fun _ => rfl) rfl ?_
    refine dw_if (fun t => Φ (Option.bind t (dc_bk (d_X10_layEnds_l92s x0 x1 x2 x3 m)))) ((Int32.toInt (m.1 x0 10)) ≤ (Int32.toInt x7)) [] 234 101 rfl (fun _ => rfl) (fun c0 => ?_) (fun c0 => ?_)
    · exact dw_j rfl (fun lv1 hv => k_X10_layEnds_b234 (Φ := (fun t => Φ (Option.bind (t.map (fun z => Sum.inr (z))) (dc_bk (d_X10_layEnds_l92s x0 x1 x2 x3 m))))) x0 x1 x2 x3 x4 x5 x6 m (fun _b => kR _b) k61 k51 (hv.1 _ rfl) (hv.2.1 _ rfl) (hv.2.2.1 _ rfl) (hv.2.2.2.1 _ rfl) (hv.2.2.2.2.1 _ rfl) (hv.2.2.2.2.2.1 _ rfl) (hv.2.2.2.2.2.2.1 _ rfl))
    · refine dw_g rfl ?_
      refine dg_s (pc' := 102) [.ref x0] rfl (fun _ => rfl) rfl ?_
      refine dg_s (pc' := 105) [.ref (x0 + 30)] rfl (fun _ => rfl) rfl ?_
      refine dg_s (pc' := 107) [.int x7, .ref (x0 + 30)] rfl (fun _ => rfl) rfl ?_
      refine dg_s (pc' := 108) [.int (m.1 (x0 + 30) (Int32.toNatClampNeg x7))] rfl (fun _ => rfl) rfl ?_
      refine dg_s (pc' := 109) [.int x3, .int (m.1 (x0 + 30) (Int32.toNatClampNeg x7))] rfl (fun _ => rfl) rfl ?_
      refine dw_if (fun t => Φ (Option.bind t (dc_bk (d_X10_layEnds_l92s x0 x1 x2 x3 m)))) (¬ (Int32.toInt (m.1 (x0 + 30) (Int32.toNatClampNeg x7))) = (Int32.toInt x3)) [] 228 112 rfl (fun _ => rfl) (fun c1 => ?_) (fun c1 => ?_)
      · refine dw_g rfl ?_
        refine dg_L (pc' := 231) [(7, .int (x7 + (1 : Int32))), (0, .ref x0), (1, .int x1), (2, .int x2), (3, .int x3), (4, .int x4), (5, .int x5), (6, .int x6)] [] rfl (fun _ => rfl) rfl ?_
        refine dw_s (pc' := 92) [] rfl (fun _ => rfl) ?_
        exact dw_j rfl (fun lv1 hv => ih x4 x5 x6 (x7 + (1 : Int32)) lv1 (hv.1 _ rfl) (hv.2.1 _ rfl) (hv.2.2.1 _ rfl) (hv.2.2.2.1 _ rfl) (hv.2.2.2.2.1 _ rfl) (hv.2.2.2.2.2.1 _ rfl) (hv.2.2.2.2.2.2.1 _ rfl) (hv.2.2.2.2.2.2.2.1 _ rfl))
      · refine dw_g rfl ?_
        refine dg_s (pc' := 113) [.ref x0] rfl (fun _ => rfl) rfl ?_
        refine dg_s (pc' := 116) [.int (m.1 x0 11)] rfl (fun _ => rfl) rfl ?_
        refine dg_s (pc' := 118) [.int x7, .int (m.1 x0 11)] rfl (fun _ => rfl) rfl ?_
        refine dg_s (pc' := 119) [.int ((m.1 x0 11) >>> (x7 &&& 31))] rfl (fun _ => rfl) rfl ?_
        refine dg_s (pc' := 120) [.int (1 : Int32), .int ((m.1 x0 11) >>> (x7 &&& 31))] rfl (fun _ => rfl) rfl ?_
        refine dg_s (pc' := 121) [.int (((m.1 x0 11) >>> (x7 &&& 31)) &&& (1 : Int32))] rfl (fun _ => rfl) rfl ?_
        refine dg_s (pc' := 122) [.int (1 : Int32), .int (((m.1 x0 11) >>> (x7 &&& 31)) &&& (1 : Int32))] rfl (fun _ => rfl) rfl ?_
        refine dw_if (fun t => Φ (Option.bind t (dc_bk (d_X10_layEnds_l92s x0 x1 x2 x3 m)))) (¬ (Int32.toInt (((m.1 x0 11) >>> (x7 &&& 31)) &&& (1 : Int32))) = 1) [] 129 125 rfl (fun _ => rfl) (fun c2 => ?_) (fun c2 => ?_)
        · refine dw_g rfl ?_
          refine dw_s (pc' := 130) [.int (0 : Int32)] rfl (fun _ => rfl) ?_
          exact dw_j rfl (fun lv1 hv => k_X10_layEnds_b130 (Φ := (fun t => Φ (Option.bind t (dc_bk (d_X10_layEnds_l92s x0 x1 x2 x3 m))))) x0 x1 x2 x3 x4 x5 x6 x7 (0 : Int32) m (fun _b => kR _b) ih k61 k51 (hv.1 _ rfl) (hv.2.1 _ rfl) (hv.2.2.1 _ rfl) (hv.2.2.2.1 _ rfl) (hv.2.2.2.2.1 _ rfl) (hv.2.2.2.2.2.1 _ rfl) (hv.2.2.2.2.2.2.1 _ rfl) (hv.2.2.2.2.2.2.2.1 _ rfl))
        · refine dw_g rfl ?_
          refine dg_s (pc' := 126) [.int (1 : Int32)] rfl (fun _ => rfl) rfl ?_
          refine dw_s (pc' := 130) [.int (1 : Int32)] rfl (fun _ => rfl) ?_
          exact dw_j rfl (fun lv1 hv => k_X10_layEnds_b130 (Φ := (fun t => Φ (Option.bind t (dc_bk (d_X10_layEnds_l92s x0 x1 x2 x3 m))))) x0 x1 x2 x3 x4 x5 x6 x7 (1 : Int32) m (fun _b => kR _b) ih k61 k51 (hv.1 _ rfl) (hv.2.1 _ rfl) (hv.2.2.1 _ rfl) (hv.2.2.2.1 _ rfl) (hv.2.2.2.2.1 _ rfl) (hv.2.2.2.2.2.1 _ rfl) (hv.2.2.2.2.2.2.1 _ rfl) (hv.2.2.2.2.2.2.2.1 _ rfl))
noncomputable def d_X10_layEnds_l61b (x0 : Nat) (x1 : Int32) (x2 : Int32) (x3 : Int32) (m : dc_M) : Option ((Int32 × dc_M) ⊕ ((Int32 × dc_M) ⊕ dc_M)) :=
  (if (Int32.toInt (m.1 x0 3)) ≤ (Int32.toInt x3) then some (Sum.inr (Sum.inl ((x2 + (1 : Int32)), m))) else (if ¬ (Int32.toInt (m.1 (x0 + 31) (Int32.toNatClampNeg x3))) = (-2) then some (Sum.inl ((x3 + (1 : Int32)), m)) else (d_X10_layEnds_l92 x0 x1 x2 x3 (0 : Int32) (1 : Int32) (0 : Int32) (0 : Int32) m)))
noncomputable def d_X10_layEnds_l61s (x0 : Nat) (x1 : Int32) (x2 : Int32) : (Int32 × dc_M) → Option ((Int32 × dc_M) ⊕ ((Int32 × dc_M) ⊕ dc_M)) := fun s => d_X10_layEnds_l61b x0 x1 x2 s.1 s.2
noncomputable def d_X10_layEnds_l61 (x0 : Nat) (x1 : Int32) (x2 : Int32) (x3 : Int32) (m : dc_M) : Option ((Int32 × dc_M) ⊕ dc_M) := dc_lp (d_X10_layEnds_l61s x0 x1 x2) (x3, m)
set_option maxHeartbeats 8000000 in
theorem k_X10_layEnds_l61 {u : Nat} {Φ : (Option ((Int32 × dc_M) ⊕ dc_M)) → Option Value → dc_M → Prop} (x0 : Nat) (x1 : Int32) (x2 : Int32) (kR : ∀  (m : dc_M), Φ (some (Sum.inr (m))) (none) m) : ∀ (N : Nat), (∀ (x2 : Int32) (m : dc_M) (lv : ab_L), ab_lk lv 0 = some (.ref x0) → ab_lk lv 1 = some (.int x1) → ab_lk lv 2 = some (.int x2) →  dc_pv u N ab_M_X10_layEnds 51 lv [] m (Φ (some (Sum.inl (x2, m))))) → ∀ (x3 : Int32) (m : dc_M) (lv : ab_L), ab_lk lv 0 = some (.ref x0) → ab_lk lv 1 = some (.int x1) → ab_lk lv 2 = some (.int x2) → ab_lk lv 3 = some (.int x3) → dc_pv u N ab_M_X10_layEnds 61 lv [] m (Φ (d_X10_layEnds_l61 x0 x1 x2 x3 m)) := by
  intro N
  induction N with
  | zero => intros; exact dc_pv_zero
  | succ N ih =>
    intro k51 x3 m lv f0 f1 f2 f3
    have k51 := fun a0 a1 a2 a3 a4 a5 => (k51 a0 a1 a2 a3 a4 a5).mono (Nat.le_succ N)
    have ih := ih k51
    refine dc_ok (C := C_X10_layEnds) (S := S_X10_layEnds) CO_X10_layEnds 400 61 [(0, .ref x0), (1, .int x1), (2, .int x2), (3, .int x3)] lv [] m (dc_sub_cons f0 (dc_sub_cons f1 (dc_sub_cons f2 (dc_sub_cons f3 (dc_sub_nil))))) ?_
    unfold d_X10_layEnds_l61
    rw [dc_lp_eq]
    show (fun t x => dc_lf u N ab_M_X10_layEnds (Φ (Option.bind t (dc_bk (d_X10_layEnds_l61s x0 x1 x2)))) x) (d_X10_layEnds_l61b x0 x1 x2 x3 m) _
    dsimp only
    unfold d_X10_layEnds_l61b
    refine dg_s (pc' := 62) [.int x3] rfl (fun _ => rfl) rfl ?_
    refine dg_s (pc' := 63) [.ref x0, .int x3] rfl (fun _ => rfl) rfl ?_
    refine dg_s (pc' := 66) [.int (m.1 x0 3), .int x3] rfl (fun _ => rfl) rfl ?_
    refine dw_if (fun t => Φ (Option.bind t (dc_bk (d_X10_layEnds_l61s x0 x1 x2)))) ((Int32.toInt (m.1 x0 3)) ≤ (Int32.toInt x3)) [] 274 69 rfl (fun _ => rfl) (fun c0 => ?_) (fun c0 => ?_)
    · refine dw_g rfl ?_
      refine dg_L (pc' := 277) [(2, .int (x2 + (1 : Int32))), (0, .ref x0), (1, .int x1), (3, .int x3)] [] rfl (fun _ => rfl) rfl ?_
      refine dw_s (pc' := 51) [] rfl (fun _ => rfl) ?_
      exact dw_j rfl (fun lv1 hv => k51 (x2 + (1 : Int32)) m lv1 (hv.1 _ rfl) (hv.2.1 _ rfl) (hv.2.2.1 _ rfl))
    · refine dw_g rfl ?_
      refine dg_s (pc' := 70) [.ref x0] rfl (fun _ => rfl) rfl ?_
      refine dg_s (pc' := 73) [.ref (x0 + 31)] rfl (fun _ => rfl) rfl ?_
      refine dg_s (pc' := 74) [.int x3, .ref (x0 + 31)] rfl (fun _ => rfl) rfl ?_
      refine dg_s (pc' := 75) [.int (m.1 (x0 + 31) (Int32.toNatClampNeg x3))] rfl (fun _ => rfl) rfl ?_
      refine dg_s (pc' := 77) [.int (-2 : Int32), .int (m.1 (x0 + 31) (Int32.toNatClampNeg x3))] rfl (fun _ => rfl) rfl ?_
      refine dw_if (fun t => Φ (Option.bind t (dc_bk (d_X10_layEnds_l61s x0 x1 x2)))) (¬ (Int32.toInt (m.1 (x0 + 31) (Int32.toNatClampNeg x3))) = (-2)) [] 268 80 rfl (fun _ => rfl) (fun c1 => ?_) (fun c1 => ?_)
      · refine dw_g rfl ?_
        refine dg_L (pc' := 271) [(3, .int (x3 + (1 : Int32))), (0, .ref x0), (1, .int x1), (2, .int x2)] [] rfl (fun _ => rfl) rfl ?_
        refine dw_s (pc' := 61) [] rfl (fun _ => rfl) ?_
        exact dw_j rfl (fun lv1 hv => ih (x3 + (1 : Int32)) m lv1 (hv.1 _ rfl) (hv.2.1 _ rfl) (hv.2.2.1 _ rfl) (hv.2.2.2.1 _ rfl))
      · refine dw_g rfl ?_
        refine dg_s (pc' := 81) [.int (0 : Int32)] rfl (fun _ => rfl) rfl ?_
        refine dg_L (pc' := 83) [(4, .int (0 : Int32)), (0, .ref x0), (1, .int x1), (2, .int x2), (3, .int x3)] [] rfl (fun _ => rfl) rfl ?_
        refine dg_s (pc' := 84) [.int (1 : Int32)] rfl (fun _ => rfl) rfl ?_
        refine dg_L (pc' := 86) [(5, .int (1 : Int32)), (4, .int (0 : Int32)), (0, .ref x0), (1, .int x1), (2, .int x2), (3, .int x3)] [] rfl (fun _ => rfl) rfl ?_
        refine dg_s (pc' := 87) [.int (0 : Int32)] rfl (fun _ => rfl) rfl ?_
        refine dg_L (pc' := 89) [(6, .int (0 : Int32)), (5, .int (1 : Int32)), (4, .int (0 : Int32)), (0, .ref x0), (1, .int x1), (2, .int x2), (3, .int x3)] [] rfl (fun _ => rfl) rfl ?_
        refine dg_s (pc' := 90) [.int (0 : Int32)] rfl (fun _ => rfl) rfl ?_
        refine dw_L (pc' := 92) [(7, .int (0 : Int32)), (6, .int (0 : Int32)), (5, .int (1 : Int32)), (4, .int (0 : Int32)), (0, .ref x0), (1, .int x1), (2, .int x2), (3, .int x3)] [] rfl (fun _ => rfl) ?_
        exact dw_j rfl (fun lv1 hv => k_X10_layEnds_l92 (Φ := (fun t => Φ (Option.bind t (dc_bk (d_X10_layEnds_l61s x0 x1 x2))))) x0 x1 x2 x3 m (fun _b => kR _b) N ih k51 (0 : Int32) (1 : Int32) (0 : Int32) (0 : Int32) lv1 (hv.1 _ rfl) (hv.2.1 _ rfl) (hv.2.2.1 _ rfl) (hv.2.2.2.1 _ rfl) (hv.2.2.2.2.1 _ rfl) (hv.2.2.2.2.2.1 _ rfl) (hv.2.2.2.2.2.2.1 _ rfl) (hv.2.2.2.2.2.2.2.1 _ rfl))
noncomputable def d_X10_layEnds_l51b (x0 : Nat) (x1 : Int32) (x2 : Int32) (m : dc_M) : Option ((Int32 × dc_M) ⊕ dc_M) :=
  (if (Int32.toInt (m.1 x0 3)) < (Int32.toInt x2) then some (Sum.inr (m)) else (d_X10_layEnds_l61 x0 x1 x2 (0 : Int32) m))
noncomputable def d_X10_layEnds_l51s (x0 : Nat) (x1 : Int32) : (Int32 × dc_M) → Option ((Int32 × dc_M) ⊕ dc_M) := fun s => d_X10_layEnds_l51b x0 x1 s.1 s.2
noncomputable def d_X10_layEnds_l51 (x0 : Nat) (x1 : Int32) (x2 : Int32) (m : dc_M) : Option dc_M := dc_lp (d_X10_layEnds_l51s x0 x1) (x2, m)
set_option maxHeartbeats 8000000 in
theorem k_X10_layEnds_l51 {u : Nat} {Φ : (Option dc_M) → Option Value → dc_M → Prop} (x0 : Nat) (x1 : Int32) (kR : ∀  (m : dc_M), Φ (some (m)) (none) m) : ∀ (N : Nat), ∀ (x2 : Int32) (m : dc_M) (lv : ab_L), ab_lk lv 0 = some (.ref x0) → ab_lk lv 1 = some (.int x1) → ab_lk lv 2 = some (.int x2) → dc_pv u N ab_M_X10_layEnds 51 lv [] m (Φ (d_X10_layEnds_l51 x0 x1 x2 m)) := by
  intro N
  induction N with
  | zero => intros; exact dc_pv_zero
  | succ N ih =>
    intro x2 m lv f0 f1 f2
    refine dc_ok (C := C_X10_layEnds) (S := S_X10_layEnds) CO_X10_layEnds 400 51 [(0, .ref x0), (1, .int x1), (2, .int x2)] lv [] m (dc_sub_cons f0 (dc_sub_cons f1 (dc_sub_cons f2 (dc_sub_nil)))) ?_
    unfold d_X10_layEnds_l51
    rw [dc_lp_eq]
    show (fun t x => dc_lf u N ab_M_X10_layEnds (Φ (Option.bind t (dc_bk (d_X10_layEnds_l51s x0 x1)))) x) (d_X10_layEnds_l51b x0 x1 x2 m) _
    dsimp only
    unfold d_X10_layEnds_l51b
    refine dg_s (pc' := 52) [.int x2] rfl (fun _ => rfl) rfl ?_
    refine dg_s (pc' := 53) [.ref x0, .int x2] rfl (fun _ => rfl) rfl ?_
    refine dg_s (pc' := 56) [.int (m.1 x0 3), .int x2] rfl (fun _ => rfl) rfl ?_
    refine dw_if (fun t => Φ (Option.bind t (dc_bk (d_X10_layEnds_l51s x0 x1)))) ((Int32.toInt (m.1 x0 3)) < (Int32.toInt x2)) [] 280 59 rfl (fun _ => rfl) (fun c0 => ?_) (fun c0 => ?_)
    · refine dw_g rfl ?_
      exact dw_r (some (.inl (none, m))) rfl (fun _ => rfl) (kR _)
    · refine dw_g rfl ?_
      refine dg_s (pc' := 60) [.int (0 : Int32)] rfl (fun _ => rfl) rfl ?_
      refine dw_L (pc' := 61) [(3, .int (0 : Int32)), (0, .ref x0), (1, .int x1), (2, .int x2)] [] rfl (fun _ => rfl) ?_
      exact dw_j rfl (fun lv1 hv => k_X10_layEnds_l61 (Φ := (fun t => Φ (Option.bind t (dc_bk (d_X10_layEnds_l51s x0 x1))))) x0 x1 x2 (fun _b => kR _b) N ih (0 : Int32) m lv1 (hv.1 _ rfl) (hv.2.1 _ rfl) (hv.2.2.1 _ rfl) (hv.2.2.2.1 _ rfl))
noncomputable def d_X10_layEnds_l2b (x0 : Nat) (x1 : Int32) (x2 : Int32) (m : dc_M) : Option ((Int32 × dc_M) ⊕ dc_M) :=
  (if (Int32.toInt (m.1 x0 3)) ≤ (Int32.toInt x2) then ((d_X10_layEnds_l51 x0 x1 (0 : Int32) m).map (fun z => Sum.inr (z))) else (if ¬ (Int32.toInt ((dc_wi m (x0 + 32) (Int32.toNatClampNeg x2) (m.1 (x0 + 31) (Int32.toNatClampNeg x2))).1 (x0 + 6) (Int32.toNatClampNeg x2))) = 0 then some (Sum.inl ((x2 + (1 : Int32)), (dc_wi (dc_wi m (x0 + 32) (Int32.toNatClampNeg x2) (m.1 (x0 + 31) (Int32.toNatClampNeg x2))) (x0 + 31) (Int32.toNatClampNeg x2) (-2 : Int32)))) else some (Sum.inl ((x2 + (1 : Int32)), (dc_wi (dc_wi m (x0 + 32) (Int32.toNatClampNeg x2) (m.1 (x0 + 31) (Int32.toNatClampNeg x2))) (x0 + 31) (Int32.toNatClampNeg x2) (-1 : Int32))))))
noncomputable def d_X10_layEnds_l2s (x0 : Nat) (x1 : Int32) : (Int32 × dc_M) → Option ((Int32 × dc_M) ⊕ dc_M) := fun s => d_X10_layEnds_l2b x0 x1 s.1 s.2
noncomputable def d_X10_layEnds_l2 (x0 : Nat) (x1 : Int32) (x2 : Int32) (m : dc_M) : Option dc_M := dc_lp (d_X10_layEnds_l2s x0 x1) (x2, m)
set_option maxHeartbeats 8000000 in
theorem k_X10_layEnds_l2 {u : Nat} {Φ : (Option dc_M) → Option Value → dc_M → Prop} (x0 : Nat) (x1 : Int32) (kR : ∀  (m : dc_M), Φ (some (m)) (none) m) : ∀ (N : Nat), ∀ (x2 : Int32) (m : dc_M) (lv : ab_L), ab_lk lv 0 = some (.ref x0) → ab_lk lv 1 = some (.int x1) → ab_lk lv 2 = some (.int x2) → dc_pv u N ab_M_X10_layEnds 2 lv [] m (Φ (d_X10_layEnds_l2 x0 x1 x2 m)) := by
  intro N
  induction N with
  | zero => intros; exact dc_pv_zero
  | succ N ih =>
    intro x2 m lv f0 f1 f2
    refine dc_ok (C := C_X10_layEnds) (S := S_X10_layEnds) CO_X10_layEnds 400 2 [(0, .ref x0), (1, .int x1), (2, .int x2)] lv [] m (dc_sub_cons f0 (dc_sub_cons f1 (dc_sub_cons f2 (dc_sub_nil)))) ?_
    unfold d_X10_layEnds_l2
    rw [dc_lp_eq]
    show (fun t x => dc_lf u N ab_M_X10_layEnds (Φ (Option.bind t (dc_bk (d_X10_layEnds_l2s x0 x1)))) x) (d_X10_layEnds_l2b x0 x1 x2 m) _
    dsimp only
    unfold d_X10_layEnds_l2b
    refine dg_s (pc' := 3) [.int x2] rfl (fun _ => rfl) rfl ?_
    refine dg_s (pc' := 4) [.ref x0, .int x2] rfl (fun _ => rfl) rfl ?_
    refine dg_s (pc' := 7) [.int (m.1 x0 3), .int x2] rfl (fun _ => rfl) rfl ?_
    refine dw_if (fun t => Φ (Option.bind t (dc_bk (d_X10_layEnds_l2s x0 x1)))) ((Int32.toInt (m.1 x0 3)) ≤ (Int32.toInt x2)) [] 49 10 rfl (fun _ => rfl) (fun c0 => ?_) (fun c0 => ?_)
    · refine dw_g rfl ?_
      refine dg_s (pc' := 50) [.int (0 : Int32)] rfl (fun _ => rfl) rfl ?_
      refine dw_L (pc' := 51) [(2, .int (0 : Int32)), (0, .ref x0), (1, .int x1)] [] rfl (fun _ => rfl) ?_
      exact dw_j rfl (fun lv1 hv => k_X10_layEnds_l51 (Φ := (fun t => Φ (Option.bind (t.map (fun z => Sum.inr (z))) (dc_bk (d_X10_layEnds_l2s x0 x1))))) x0 x1 (fun _b => kR _b) N  (0 : Int32) m lv1 (hv.1 _ rfl) (hv.2.1 _ rfl) (hv.2.2.1 _ rfl))
    · refine dw_g rfl ?_
      refine dg_s (pc' := 11) [.ref x0] rfl (fun _ => rfl) rfl ?_
      refine dg_s (pc' := 14) [.ref (x0 + 32)] rfl (fun _ => rfl) rfl ?_
      refine dg_s (pc' := 15) [.int x2, .ref (x0 + 32)] rfl (fun _ => rfl) rfl ?_
      refine dg_s (pc' := 16) [.ref x0, .int x2, .ref (x0 + 32)] rfl (fun _ => rfl) rfl ?_
      refine dg_s (pc' := 19) [.ref (x0 + 31), .int x2, .ref (x0 + 32)] rfl (fun _ => rfl) rfl ?_
      refine dg_s (pc' := 20) [.int x2, .ref (x0 + 31), .int x2, .ref (x0 + 32)] rfl (fun _ => rfl) rfl ?_
      refine dg_s (pc' := 21) [.int (m.1 (x0 + 31) (Int32.toNatClampNeg x2)), .int x2, .ref (x0 + 32)] rfl (fun _ => rfl) rfl ?_
      refine dg_m (pc' := 22) (dc_wi m (x0 + 32) (Int32.toNatClampNeg x2) (m.1 (x0 + 31) (Int32.toNatClampNeg x2))) [] rfl (fun _ => rfl) rfl ?_
      refine dg_s (pc' := 23) [.ref x0] rfl (fun _ => rfl) rfl ?_
      refine dg_s (pc' := 26) [.ref (x0 + 31)] rfl (fun _ => rfl) rfl ?_
      refine dg_s (pc' := 27) [.int x2, .ref (x0 + 31)] rfl (fun _ => rfl) rfl ?_
      refine dg_s (pc' := 28) [.ref x0, .int x2, .ref (x0 + 31)] rfl (fun _ => rfl) rfl ?_
      refine dg_s (pc' := 31) [.ref (x0 + 6), .int x2, .ref (x0 + 31)] rfl (fun _ => rfl) rfl ?_
      refine dg_s (pc' := 32) [.int x2, .ref (x0 + 6), .int x2, .ref (x0 + 31)] rfl (fun _ => rfl) rfl ?_
      refine dg_s (pc' := 33) [.int ((dc_wi m (x0 + 32) (Int32.toNatClampNeg x2) (m.1 (x0 + 31) (Int32.toNatClampNeg x2))).1 (x0 + 6) (Int32.toNatClampNeg x2)), .int x2, .ref (x0 + 31)] rfl (fun _ => rfl) rfl ?_
      refine dw_if (fun t => Φ (Option.bind t (dc_bk (d_X10_layEnds_l2s x0 x1)))) (¬ (Int32.toInt ((dc_wi m (x0 + 32) (Int32.toNatClampNeg x2) (m.1 (x0 + 31) (Int32.toNatClampNeg x2))).1 (x0 + 6) (Int32.toNatClampNeg x2))) = 0) [.int x2, .ref (x0 + 31)] 40 36 rfl (fun _ => rfl) (fun c1 => ?_) (fun c1 => ?_)
      · refine dw_g rfl ?_
        refine dg_s (pc' := 42) [.int (-2 : Int32), .int x2, .ref (x0 + 31)] rfl (fun _ => rfl) rfl ?_
        refine dg_m (pc' := 43) (dc_wi (dc_wi m (x0 + 32) (Int32.toNatClampNeg x2) (m.1 (x0 + 31) (Int32.toNatClampNeg x2))) (x0 + 31) (Int32.toNatClampNeg x2) (-2 : Int32)) [] rfl (fun _ => rfl) rfl ?_
        refine dg_L (pc' := 46) [(2, .int (x2 + (1 : Int32))), (0, .ref x0), (1, .int x1)] [] rfl (fun _ => rfl) rfl ?_
        refine dw_s (pc' := 2) [] rfl (fun _ => rfl) ?_
        exact dw_j rfl (fun lv1 hv => ih (x2 + (1 : Int32)) (dc_wi (dc_wi m (x0 + 32) (Int32.toNatClampNeg x2) (m.1 (x0 + 31) (Int32.toNatClampNeg x2))) (x0 + 31) (Int32.toNatClampNeg x2) (-2 : Int32)) lv1 (hv.1 _ rfl) (hv.2.1 _ rfl) (hv.2.2.1 _ rfl))
      · refine dw_g rfl ?_
        refine dg_s (pc' := 37) [.int (-1 : Int32), .int x2, .ref (x0 + 31)] rfl (fun _ => rfl) rfl ?_
        refine dg_s (pc' := 42) [.int (-1 : Int32), .int x2, .ref (x0 + 31)] rfl (fun _ => rfl) rfl ?_
        refine dg_m (pc' := 43) (dc_wi (dc_wi m (x0 + 32) (Int32.toNatClampNeg x2) (m.1 (x0 + 31) (Int32.toNatClampNeg x2))) (x0 + 31) (Int32.toNatClampNeg x2) (-1 : Int32)) [] rfl (fun _ => rfl) rfl ?_
        refine dg_L (pc' := 46) [(2, .int (x2 + (1 : Int32))), (0, .ref x0), (1, .int x1)] [] rfl (fun _ => rfl) rfl ?_
        refine dw_s (pc' := 2) [] rfl (fun _ => rfl) ?_
        exact dw_j rfl (fun lv1 hv => ih (x2 + (1 : Int32)) (dc_wi (dc_wi m (x0 + 32) (Int32.toNatClampNeg x2) (m.1 (x0 + 31) (Int32.toNatClampNeg x2))) (x0 + 31) (Int32.toNatClampNeg x2) (-1 : Int32)) lv1 (hv.1 _ rfl) (hv.2.1 _ rfl) (hv.2.2.1 _ rfl))
noncomputable def d_X10_layEnds (x0 : Nat) (x1 : Int32) (m : dc_M) : Option dc_M :=
  (d_X10_layEnds_l2 x0 x1 (0 : Int32) m)
set_option maxHeartbeats 8000000 in
theorem k_X10_layEnds {u : Nat} {N : Nat} {Φ : (Option dc_M) → Option Value → dc_M → Prop} (x0 : Nat) (x1 : Int32) (m : dc_M) (kR : ∀  (m : dc_M), Φ (some (m)) (none) m)  {lv : ab_L} (f0 : ab_lk lv 0 = some (.ref x0)) (f1 : ab_lk lv 1 = some (.int x1)) : dc_pv u N ab_M_X10_layEnds 0 lv [] m (Φ (d_X10_layEnds x0 x1 m)) := by
  refine dc_pv.mono (dc_ok (C := C_X10_layEnds) (S := S_X10_layEnds) CO_X10_layEnds 400 0 [(0, .ref x0), (1, .int x1)] lv [] m (dc_sub_cons f0 (dc_sub_cons f1 (dc_sub_nil))) ?_) (Nat.le_succ N)
  unfold d_X10_layEnds
  refine dg_s (pc' := 1) [.int (0 : Int32)] rfl (fun _ => rfl) rfl ?_
  refine dw_L (pc' := 2) [(2, .int (0 : Int32)), (0, .ref x0), (1, .int x1)] [] rfl (fun _ => rfl) ?_
  exact dw_j rfl (fun lv1 hv => k_X10_layEnds_l2 (Φ := (fun t => Φ t)) x0 x1 (fun _b => kR _b) N  (0 : Int32) m lv1 (hv.1 _ rfl) (hv.2.1 _ rfl) (hv.2.2.1 _ rfl))
noncomputable def H_X10_layEnds : dc_H := fun As m k => match As with
  | [.ref x0, .int x1] => (d_X10_layEnds x0 x1 m).bind (fun q => k (none) q)
  | _ => dc_kz
theorem H_X10_layEnds_ok {u : Nat} : dc_cok u 219 H_X10_layEnds := fun M' hG N As m k P hz hP => by
  obtain rfl : ab_M_X10_layEnds = M' := Option.some.inj hG
  unfold H_X10_layEnds at hP
  split at hP
  · rename_i x0 x1
    exact dc_pv.imp (k_X10_layEnds (Φ := fun (t : Option dc_M) r m' => P (t.bind (fun q => k (none) q)) → P (k r m')) x0 x1 m (fun _ h => h) rfl rfl) (fun r m' h => h hP)
  · exact absurd hP hz
noncomputable def C_X10_time : List (Nat × dc_H) := [(146, H_X10_in), (163, H_X10_isEvent), (215, H_X10_isGraph), (219, H_X10_layEnds)]
theorem CO_X10_time {u : Nat} : dc_CO u C_X10_time := dc_CO_cons H_X10_in_ok (dc_CO_cons H_X10_isEvent_ok (dc_CO_cons H_X10_isGraph_ok (dc_CO_cons H_X10_layEnds_ok (dc_CO_nil))))
def S_X10_time : List (Nat × List Nat) := [(34, [0, 1, 2, 3]), (50, [0, 1])]
noncomputable def d_X10_time_b50 (x0 : Nat) (x1 : Int32) (m : dc_M) : Option (Int32 × dc_M) :=
  (if ¬ (Int32.toInt (m.1 (x0 + 31) (Int32.toNatClampNeg x1))) = (-1) then some (((m.1 (x0 + 31) (Int32.toNatClampNeg x1)), m)) else some (((-4 : Int32), m)))
set_option maxHeartbeats 8000000 in
theorem k_X10_time_b50 {u : Nat} {N : Nat} {Φ : (Option (Int32 × dc_M)) → Option Value → dc_M → Prop} (x0 : Nat) (x1 : Int32) (m : dc_M) (kR : ∀ (v : Int32) (m : dc_M), Φ (some ((v, m))) (some (.int v)) m)  {lv : ab_L} (f0 : ab_lk lv 0 = some (.ref x0)) (f1 : ab_lk lv 1 = some (.int x1)) : dc_pv u N ab_M_X10_time 50 lv [] m (Φ (d_X10_time_b50 x0 x1 m)) := by
  refine dc_pv.mono (dc_ok (C := C_X10_time) (S := S_X10_time) CO_X10_time 400 50 [(0, .ref x0), (1, .int x1)] lv [] m (dc_sub_cons f0 (dc_sub_cons f1 (dc_sub_nil))) ?_) (Nat.le_succ N)
  unfold d_X10_time_b50
  refine dg_s (pc' := 51) [.ref x0] rfl (fun _ => rfl) rfl ?_
  refine dg_s (pc' := 54) [.ref (x0 + 31)] rfl (fun _ => rfl) rfl ?_
  refine dg_s (pc' := 55) [.int x1, .ref (x0 + 31)] rfl (fun _ => rfl) rfl ?_
  refine dg_s (pc' := 56) [.int (m.1 (x0 + 31) (Int32.toNatClampNeg x1))] rfl (fun _ => rfl) rfl ?_
  refine dg_s (pc' := 57) [.int (-1 : Int32), .int (m.1 (x0 + 31) (Int32.toNatClampNeg x1))] rfl (fun _ => rfl) rfl ?_
  refine dw_if (fun t => Φ t) (¬ (Int32.toInt (m.1 (x0 + 31) (Int32.toNatClampNeg x1))) = (-1)) [] 65 60 rfl (fun _ => rfl) (fun c0 => ?_) (fun c0 => ?_)
  · refine dw_g rfl ?_
    refine dg_s (pc' := 66) [.ref x0] rfl (fun _ => rfl) rfl ?_
    refine dg_s (pc' := 69) [.ref (x0 + 31)] rfl (fun _ => rfl) rfl ?_
    refine dg_s (pc' := 70) [.int x1, .ref (x0 + 31)] rfl (fun _ => rfl) rfl ?_
    refine dg_s (pc' := 71) [.int (m.1 (x0 + 31) (Int32.toNatClampNeg x1))] rfl (fun _ => rfl) rfl ?_
    exact dw_r (some (.inl (some (.int (m.1 (x0 + 31) (Int32.toNatClampNeg x1))), m))) rfl (fun _ => rfl) (kR _ _)
  · refine dw_g rfl ?_
    refine dg_s (pc' := 62) [.int (-4 : Int32)] rfl (fun _ => rfl) rfl ?_
    refine dg_s (pc' := 71) [.int (-4 : Int32)] rfl (fun _ => rfl) rfl ?_
    exact dw_r (some (.inl (some (.int (-4 : Int32)), m))) rfl (fun _ => rfl) (kR _ _)
noncomputable def d_X10_time_l34b (x0 : Nat) (x1 : Int32) (x2 : Int32) (x3 : Int32) (m : dc_M) : Option ((Int32 × dc_M) ⊕ (Int32 × dc_M)) :=
  (if (Int32.toInt x2) < (Int32.toInt x3) then ((d_X10_time_b50 x0 x1 m).map (fun z => Sum.inr (z))) else ((d_X10_layEnds x0 x3 m).bind (fun q1 => some (Sum.inl ((x3 + (1 : Int32)), q1)))))
noncomputable def d_X10_time_l34s (x0 : Nat) (x1 : Int32) (x2 : Int32) : (Int32 × dc_M) → Option ((Int32 × dc_M) ⊕ (Int32 × dc_M)) := fun s => d_X10_time_l34b x0 x1 x2 s.1 s.2
noncomputable def d_X10_time_l34 (x0 : Nat) (x1 : Int32) (x2 : Int32) (x3 : Int32) (m : dc_M) : Option (Int32 × dc_M) := dc_lp (d_X10_time_l34s x0 x1 x2) (x3, m)
set_option maxHeartbeats 8000000 in
theorem k_X10_time_l34 {u : Nat} {Φ : (Option (Int32 × dc_M)) → Option Value → dc_M → Prop} (x0 : Nat) (x1 : Int32) (x2 : Int32) (kR : ∀ (v : Int32) (m : dc_M), Φ (some ((v, m))) (some (.int v)) m) : ∀ (N : Nat), ∀ (x3 : Int32) (m : dc_M) (lv : ab_L), ab_lk lv 0 = some (.ref x0) → ab_lk lv 1 = some (.int x1) → ab_lk lv 2 = some (.int x2) → ab_lk lv 3 = some (.int x3) → dc_pv u N ab_M_X10_time 34 lv [] m (Φ (d_X10_time_l34 x0 x1 x2 x3 m)) := by
  intro N
  induction N with
  | zero => intros; exact dc_pv_zero
  | succ N ih =>
    intro x3 m lv f0 f1 f2 f3
    refine dc_ok (C := C_X10_time) (S := S_X10_time) CO_X10_time 400 34 [(0, .ref x0), (1, .int x1), (2, .int x2), (3, .int x3)] lv [] m (dc_sub_cons f0 (dc_sub_cons f1 (dc_sub_cons f2 (dc_sub_cons f3 (dc_sub_nil))))) ?_
    unfold d_X10_time_l34
    rw [dc_lp_eq]
    show (fun t x => dc_lf u N ab_M_X10_time (Φ (Option.bind t (dc_bk (d_X10_time_l34s x0 x1 x2)))) x) (d_X10_time_l34b x0 x1 x2 x3 m) _
    dsimp only
    unfold d_X10_time_l34b
    refine dg_s (pc' := 35) [.int x3] rfl (fun _ => rfl) rfl ?_
    refine dg_s (pc' := 36) [.int x2, .int x3] rfl (fun _ => rfl) rfl ?_
    refine dw_if (fun t => Φ (Option.bind t (dc_bk (d_X10_time_l34s x0 x1 x2)))) ((Int32.toInt x2) < (Int32.toInt x3)) [] 50 39 rfl (fun _ => rfl) (fun c0 => ?_) (fun c0 => ?_)
    · exact dw_j rfl (fun lv1 hv => k_X10_time_b50 (Φ := (fun t => Φ (Option.bind (t.map (fun z => Sum.inr (z))) (dc_bk (d_X10_time_l34s x0 x1 x2))))) x0 x1 m (fun _a _b => kR _a _b)  (hv.1 _ rfl) (hv.2.1 _ rfl))
    · refine dw_g rfl ?_
      refine dg_s (pc' := 40) [.ref x0] rfl (fun _ => rfl) rfl ?_
      refine dg_s (pc' := 41) [.int x3, .ref x0] rfl (fun _ => rfl) rfl ?_
      refine dw_b (fun t => Φ (Option.bind t (dc_bk (d_X10_time_l34s x0 x1 x2)))) (pc' := 44) (fun q1 => []) (fun q1 => q1) rfl (fun _ => rfl) (fun q1 => ?_)
      refine dw_g rfl ?_
      refine dg_L (pc' := 47) [(3, .int (x3 + (1 : Int32))), (0, .ref x0), (1, .int x1), (2, .int x2)] [] rfl (fun _ => rfl) rfl ?_
      refine dw_s (pc' := 34) [] rfl (fun _ => rfl) ?_
      exact dw_j rfl (fun lv1 hv => ih (x3 + (1 : Int32)) q1 lv1 (hv.1 _ rfl) (hv.2.1 _ rfl) (hv.2.2.1 _ rfl) (hv.2.2.2.1 _ rfl))
noncomputable def d_X10_time (x0 : Nat) (x1 : Int32) (x2 : Int32) (m : dc_M) : Option (Int32 × dc_M) :=
  (if (Int32.toInt (d_X10_isEvent x0 x1 m)) = 0 then some (((-1 : Int32), m)) else (if ¬ (Int32.toInt (d_X10_in (Int32.toInt64 x2) (1 : Int64) (50 : Int64) m)) = 0 then ((d_X10_isGraph x0 m).bind (fun q1 => (if ¬ (Int32.toInt q1.1) = 0 then (d_X10_time_l34 x0 x1 x2 (1 : Int32) q1.2) else some (((-2 : Int32), q1.2))))) else some (((-1 : Int32), m))))
set_option maxHeartbeats 8000000 in
theorem k_X10_time {u : Nat} {N : Nat} {Φ : (Option (Int32 × dc_M)) → Option Value → dc_M → Prop} (x0 : Nat) (x1 : Int32) (x2 : Int32) (m : dc_M) (kR : ∀ (v : Int32) (m : dc_M), Φ (some ((v, m))) (some (.int v)) m)  {lv : ab_L} (f0 : ab_lk lv 0 = some (.ref x0)) (f1 : ab_lk lv 1 = some (.int x1)) (f2 : ab_lk lv 2 = some (.int x2)) : dc_pv u N ab_M_X10_time 0 lv [] m (Φ (d_X10_time x0 x1 x2 m)) := by
  refine dc_pv.mono (dc_ok (C := C_X10_time) (S := S_X10_time) CO_X10_time 400 0 [(0, .ref x0), (1, .int x1), (2, .int x2)] lv [] m (dc_sub_cons f0 (dc_sub_cons f1 (dc_sub_cons f2 (dc_sub_nil)))) ?_) (Nat.le_succ N)
  unfold d_X10_time
  refine dg_s (pc' := 1) [.ref x0] rfl (fun _ => rfl) rfl ?_
  refine dg_s (pc' := 2) [.int x1, .ref x0] rfl (fun _ => rfl) rfl ?_
  refine dg_s (pc' := 5) [.int (d_X10_isEvent x0 x1 m)] rfl (fun _ => rfl) rfl ?_
  refine dw_if (fun t => Φ t) ((Int32.toInt (d_X10_isEvent x0 x1 m)) = 0) [] 20 8 rfl (fun _ => rfl) (fun c0 => ?_) (fun c0 => ?_)
  · refine dw_g rfl ?_
    refine dg_s (pc' := 21) [.int (-1 : Int32)] rfl (fun _ => rfl) rfl ?_
    exact dw_r (some (.inl (some (.int (-1 : Int32)), m))) rfl (fun _ => rfl) (kR _ _)
  · refine dw_g rfl ?_
    refine dg_s (pc' := 9) [.int x2] rfl (fun _ => rfl) rfl ?_
    refine dg_s (pc' := 10) [.long (Int32.toInt64 x2)] rfl (fun _ => rfl) rfl ?_
    refine dg_s (pc' := 11) [.long (1 : Int64), .long (Int32.toInt64 x2)] rfl (fun _ => rfl) rfl ?_
    refine dg_s (pc' := 14) [.long (50 : Int64), .long (1 : Int64), .long (Int32.toInt64 x2)] rfl (fun _ => rfl) rfl ?_
    refine dg_s (pc' := 17) [.int (d_X10_in (Int32.toInt64 x2) (1 : Int64) (50 : Int64) m)] rfl (fun _ => rfl) rfl ?_
    refine dw_if (fun t => Φ t) (¬ (Int32.toInt (d_X10_in (Int32.toInt64 x2) (1 : Int64) (50 : Int64) m)) = 0) [] 22 20 rfl (fun _ => rfl) (fun c1 => ?_) (fun c1 => ?_)
    · refine dw_g rfl ?_
      refine dg_s (pc' := 23) [.ref x0] rfl (fun _ => rfl) rfl ?_
      refine dw_b (fun t => Φ t) (pc' := 26) (fun q1 => [.int q1.1]) (fun q1 => q1.2) rfl (fun _ => rfl) (fun q1 => ?_)
      refine dw_g rfl ?_
      refine dw_if (fun t => Φ t) (¬ (Int32.toInt q1.1) = 0) [] 32 29 rfl (fun _ => rfl) (fun c2 => ?_) (fun c2 => ?_)
      · refine dw_g rfl ?_
        refine dg_s (pc' := 33) [.int (1 : Int32)] rfl (fun _ => rfl) rfl ?_
        refine dw_L (pc' := 34) [(3, .int (1 : Int32)), (0, .ref x0), (1, .int x1), (2, .int x2)] [] rfl (fun _ => rfl) ?_
        exact dw_j rfl (fun lv1 hv => k_X10_time_l34 (Φ := (fun t => Φ t)) x0 x1 x2 (fun _a _b => kR _a _b) N  (1 : Int32) q1.2 lv1 (hv.1 _ rfl) (hv.2.1 _ rfl) (hv.2.2.1 _ rfl) (hv.2.2.2.1 _ rfl))
      · refine dw_g rfl ?_
        refine dg_s (pc' := 31) [.int (-2 : Int32)] rfl (fun _ => rfl) rfl ?_
        exact dw_r (some (.inl (some (.int (-2 : Int32)), q1.2))) rfl (fun _ => rfl) (kR _ _)
    · refine dw_g rfl ?_
      refine dg_s (pc' := 21) [.int (-1 : Int32)] rfl (fun _ => rfl) rfl ?_
      exact dw_r (some (.inl (some (.int (-1 : Int32)), m))) rfl (fun _ => rfl) (kR _ _)
noncomputable def H_X10_time : dc_H := fun As m k => match As with
  | [.ref x0, .int x1, .int x2] => (d_X10_time x0 x1 x2 m).bind (fun q => k (some (.int q.1)) q.2)
  | _ => dc_kz
theorem H_X10_time_ok {u : Nat} : dc_cok u 220 H_X10_time := fun M' hG N As m k P hz hP => by
  obtain rfl : ab_M_X10_time = M' := Option.some.inj hG
  unfold H_X10_time at hP
  split at hP
  · rename_i x0 x1 x2
    exact dc_pv.imp (k_X10_time (Φ := fun (t : Option (Int32 × dc_M)) r m' => P (t.bind (fun q => k (some (.int q.1)) q.2)) → P (k r m')) x0 x1 x2 m (fun _ _ h => h) rfl rfl rfl) (fun r m' h => h hP)
  · exact absurd hP hz
def C_X10_come : List (Nat × dc_H) := [(171, H_X10_after), (163, H_X10_isEvent), (169, H_X10_isReady), (170, H_X10_isUnsafe)]
theorem CO_X10_come {u : Nat} : dc_CO u C_X10_come := dc_CO_cons H_X10_after_ok (dc_CO_cons H_X10_isEvent_ok (dc_CO_cons H_X10_isReady_ok (dc_CO_cons H_X10_isUnsafe_ok (dc_CO_nil))))
def S_X10_come : List (Nat × List Nat) := []
def d_X10_come (x0 : Nat) (x1 : Int32) (m : dc_M) : (Int32 × dc_M) :=
  (if ¬ (Int32.toInt (d_X10_isEvent x0 x1 m)) = 0 then (if (Int32.toInt (d_X10_isReady x0 x1 (m.1 (x0 + 33) (Int32.toNatClampNeg (m.1 x0 64))) m)) = 0 then ((-2 : Int32), m) else (if (Int32.toInt (d_X10_isUnsafe x0 x1 (m.1 (x0 + 33) (Int32.toNatClampNeg (m.1 x0 64))) m)) = 0 then (if ¬ (Int32.toInt (m.1 x0 64)) = 100 then (((dc_wi (dc_wi (dc_wi m (x0 + 34) (Int32.toNatClampNeg (m.1 x0 64)) x1) x0 64 (((dc_wi m (x0 + 34) (Int32.toNatClampNeg (m.1 x0 64)) x1).1 x0 64) + (1 : Int32))) (x0 + 33) (Int32.toNatClampNeg ((dc_wi (dc_wi m (x0 + 34) (Int32.toNatClampNeg (m.1 x0 64)) x1) x0 64 (((dc_wi m (x0 + 34) (Int32.toNatClampNeg (m.1 x0 64)) x1).1 x0 64) + (1 : Int32))).1 x0 64)) (d_X10_after x0 x1 (m.1 (x0 + 33) (Int32.toNatClampNeg (m.1 x0 64))) (dc_wi (dc_wi m (x0 + 34) (Int32.toNatClampNeg (m.1 x0 64)) x1) x0 64 (((dc_wi m (x0 + 34) (Int32.toNatClampNeg (m.1 x0 64)) x1).1 x0 64) + (1 : Int32))))).1 x0 64), (dc_wi (dc_wi (dc_wi m (x0 + 34) (Int32.toNatClampNeg (m.1 x0 64)) x1) x0 64 (((dc_wi m (x0 + 34) (Int32.toNatClampNeg (m.1 x0 64)) x1).1 x0 64) + (1 : Int32))) (x0 + 33) (Int32.toNatClampNeg ((dc_wi (dc_wi m (x0 + 34) (Int32.toNatClampNeg (m.1 x0 64)) x1) x0 64 (((dc_wi m (x0 + 34) (Int32.toNatClampNeg (m.1 x0 64)) x1).1 x0 64) + (1 : Int32))).1 x0 64)) (d_X10_after x0 x1 (m.1 (x0 + 33) (Int32.toNatClampNeg (m.1 x0 64))) (dc_wi (dc_wi m (x0 + 34) (Int32.toNatClampNeg (m.1 x0 64)) x1) x0 64 (((dc_wi m (x0 + 34) (Int32.toNatClampNeg (m.1 x0 64)) x1).1 x0 64) + (1 : Int32)))))) else ((-3 : Int32), m)) else ((-2 : Int32), m))) else ((-1 : Int32), m))
set_option maxHeartbeats 8000000 in
theorem k_X10_come {u : Nat} {N : Nat} {Φ : (Int32 × dc_M) → Option Value → dc_M → Prop} (x0 : Nat) (x1 : Int32) (m : dc_M) (kR : ∀ (v : Int32) (m : dc_M), Φ ((v, m)) (some (.int v)) m)  {lv : ab_L} (f0 : ab_lk lv 0 = some (.ref x0)) (f1 : ab_lk lv 1 = some (.int x1)) : dc_pv u N ab_M_X10_come 0 lv [] m (Φ (d_X10_come x0 x1 m)) := by
  refine dc_pv.mono (dc_ok (C := C_X10_come) (S := S_X10_come) CO_X10_come 400 0 [(0, .ref x0), (1, .int x1)] lv [] m (dc_sub_cons f0 (dc_sub_cons f1 (dc_sub_nil))) ?_) (Nat.le_succ N)
  unfold d_X10_come
  refine dg_s (pc' := 1) [.ref x0] rfl (fun _ => rfl) rfl ?_
  refine dg_s (pc' := 2) [.int x1, .ref x0] rfl (fun _ => rfl) rfl ?_
  refine dg_s (pc' := 5) [.int (d_X10_isEvent x0 x1 m)] rfl (fun _ => rfl) rfl ?_
  refine dw_if (fun t => Φ t) (¬ (Int32.toInt (d_X10_isEvent x0 x1 m)) = 0) [] 10 8 rfl (fun _ => rfl) (fun c0 => ?_) (fun c0 => ?_)
  · refine dw_g rfl ?_
    refine dg_s (pc' := 11) [.ref x0] rfl (fun _ => rfl) rfl ?_
    refine dg_s (pc' := 14) [.ref (x0 + 33)] rfl (fun _ => rfl) rfl ?_
    refine dg_s (pc' := 15) [.ref x0, .ref (x0 + 33)] rfl (fun _ => rfl) rfl ?_
    refine dg_s (pc' := 18) [.int (m.1 x0 64), .ref (x0 + 33)] rfl (fun _ => rfl) rfl ?_
    refine dg_s (pc' := 19) [.int (m.1 (x0 + 33) (Int32.toNatClampNeg (m.1 x0 64)))] rfl (fun _ => rfl) rfl ?_
    refine dg_L (pc' := 20) [(2, .int (m.1 (x0 + 33) (Int32.toNatClampNeg (m.1 x0 64)))), (0, .ref x0), (1, .int x1)] [] rfl (fun _ => rfl) rfl ?_
    refine dg_s (pc' := 21) [.ref x0] rfl (fun _ => rfl) rfl ?_
    refine dg_s (pc' := 22) [.int x1, .ref x0] rfl (fun _ => rfl) rfl ?_
    refine dg_s (pc' := 23) [.int (m.1 (x0 + 33) (Int32.toNatClampNeg (m.1 x0 64))), .int x1, .ref x0] rfl (fun _ => rfl) rfl ?_
    refine dg_s (pc' := 26) [.int (d_X10_isReady x0 x1 (m.1 (x0 + 33) (Int32.toNatClampNeg (m.1 x0 64))) m)] rfl (fun _ => rfl) rfl ?_
    refine dw_if (fun t => Φ t) ((Int32.toInt (d_X10_isReady x0 x1 (m.1 (x0 + 33) (Int32.toNatClampNeg (m.1 x0 64))) m)) = 0) [] 38 29 rfl (fun _ => rfl) (fun c1 => ?_) (fun c1 => ?_)
    · refine dw_g rfl ?_
      refine dg_s (pc' := 40) [.int (-2 : Int32)] rfl (fun _ => rfl) rfl ?_
      exact dw_r (some (.inl (some (.int (-2 : Int32)), m))) rfl (fun _ => rfl) (kR _ _)
    · refine dw_g rfl ?_
      refine dg_s (pc' := 30) [.ref x0] rfl (fun _ => rfl) rfl ?_
      refine dg_s (pc' := 31) [.int x1, .ref x0] rfl (fun _ => rfl) rfl ?_
      refine dg_s (pc' := 32) [.int (m.1 (x0 + 33) (Int32.toNatClampNeg (m.1 x0 64))), .int x1, .ref x0] rfl (fun _ => rfl) rfl ?_
      refine dg_s (pc' := 35) [.int (d_X10_isUnsafe x0 x1 (m.1 (x0 + 33) (Int32.toNatClampNeg (m.1 x0 64))) m)] rfl (fun _ => rfl) rfl ?_
      refine dw_if (fun t => Φ t) ((Int32.toInt (d_X10_isUnsafe x0 x1 (m.1 (x0 + 33) (Int32.toNatClampNeg (m.1 x0 64))) m)) = 0) [] 41 38 rfl (fun _ => rfl) (fun c2 => ?_) (fun c2 => ?_)
      · refine dw_g rfl ?_
        refine dg_s (pc' := 42) [.ref x0] rfl (fun _ => rfl) rfl ?_
        refine dg_s (pc' := 45) [.int (m.1 x0 64)] rfl (fun _ => rfl) rfl ?_
        refine dg_s (pc' := 47) [.int (100 : Int32), .int (m.1 x0 64)] rfl (fun _ => rfl) rfl ?_
        refine dw_if (fun t => Φ t) (¬ (Int32.toInt (m.1 x0 64)) = 100) [] 53 50 rfl (fun _ => rfl) (fun c3 => ?_) (fun c3 => ?_)
        · refine dw_g rfl ?_
          refine dg_s (pc' := 54) [.ref x0] rfl (fun _ => rfl) rfl ?_
          refine dg_s (pc' := 57) [.ref (x0 + 34)] rfl (fun _ => rfl) rfl ?_
          refine dg_s (pc' := 58) [.ref x0, .ref (x0 + 34)] rfl (fun _ => rfl) rfl ?_
          refine dg_s (pc' := 61) [.int (m.1 x0 64), .ref (x0 + 34)] rfl (fun _ => rfl) rfl ?_
          refine dg_s (pc' := 62) [.int x1, .int (m.1 x0 64), .ref (x0 + 34)] rfl (fun _ => rfl) rfl ?_
          refine dg_m (pc' := 63) (dc_wi m (x0 + 34) (Int32.toNatClampNeg (m.1 x0 64)) x1) [] rfl (fun _ => rfl) rfl ?_
          refine dg_s (pc' := 64) [.ref x0] rfl (fun _ => rfl) rfl ?_
          refine dg_s (pc' := 65) [.ref x0, .ref x0] rfl (fun _ => rfl) rfl ?_
          refine dg_s (pc' := 68) [.int ((dc_wi m (x0 + 34) (Int32.toNatClampNeg (m.1 x0 64)) x1).1 x0 64), .ref x0] rfl (fun _ => rfl) rfl ?_
          refine dg_s (pc' := 69) [.int (1 : Int32), .int ((dc_wi m (x0 + 34) (Int32.toNatClampNeg (m.1 x0 64)) x1).1 x0 64), .ref x0] rfl (fun _ => rfl) rfl ?_
          refine dg_s (pc' := 70) [.int (((dc_wi m (x0 + 34) (Int32.toNatClampNeg (m.1 x0 64)) x1).1 x0 64) + (1 : Int32)), .ref x0] rfl (fun _ => rfl) rfl ?_
          refine dg_m (pc' := 73) (dc_wi (dc_wi m (x0 + 34) (Int32.toNatClampNeg (m.1 x0 64)) x1) x0 64 (((dc_wi m (x0 + 34) (Int32.toNatClampNeg (m.1 x0 64)) x1).1 x0 64) + (1 : Int32))) [] rfl (fun _ => rfl) rfl ?_
          refine dg_s (pc' := 74) [.ref x0] rfl (fun _ => rfl) rfl ?_
          refine dg_s (pc' := 77) [.ref (x0 + 33)] rfl (fun _ => rfl) rfl ?_
          refine dg_s (pc' := 78) [.ref x0, .ref (x0 + 33)] rfl (fun _ => rfl) rfl ?_
          refine dg_s (pc' := 81) [.int ((dc_wi (dc_wi m (x0 + 34) (Int32.toNatClampNeg (m.1 x0 64)) x1) x0 64 (((dc_wi m (x0 + 34) (Int32.toNatClampNeg (m.1 x0 64)) x1).1 x0 64) + (1 : Int32))).1 x0 64), .ref (x0 + 33)] rfl (fun _ => rfl) rfl ?_
          refine dg_s (pc' := 82) [.ref x0, .int ((dc_wi (dc_wi m (x0 + 34) (Int32.toNatClampNeg (m.1 x0 64)) x1) x0 64 (((dc_wi m (x0 + 34) (Int32.toNatClampNeg (m.1 x0 64)) x1).1 x0 64) + (1 : Int32))).1 x0 64), .ref (x0 + 33)] rfl (fun _ => rfl) rfl ?_
          refine dg_s (pc' := 83) [.int x1, .ref x0, .int ((dc_wi (dc_wi m (x0 + 34) (Int32.toNatClampNeg (m.1 x0 64)) x1) x0 64 (((dc_wi m (x0 + 34) (Int32.toNatClampNeg (m.1 x0 64)) x1).1 x0 64) + (1 : Int32))).1 x0 64), .ref (x0 + 33)] rfl (fun _ => rfl) rfl ?_
          refine dg_s (pc' := 84) [.int (m.1 (x0 + 33) (Int32.toNatClampNeg (m.1 x0 64))), .int x1, .ref x0, .int ((dc_wi (dc_wi m (x0 + 34) (Int32.toNatClampNeg (m.1 x0 64)) x1) x0 64 (((dc_wi m (x0 + 34) (Int32.toNatClampNeg (m.1 x0 64)) x1).1 x0 64) + (1 : Int32))).1 x0 64), .ref (x0 + 33)] rfl (fun _ => rfl) rfl ?_
          refine dg_s (pc' := 87) [.int (d_X10_after x0 x1 (m.1 (x0 + 33) (Int32.toNatClampNeg (m.1 x0 64))) (dc_wi (dc_wi m (x0 + 34) (Int32.toNatClampNeg (m.1 x0 64)) x1) x0 64 (((dc_wi m (x0 + 34) (Int32.toNatClampNeg (m.1 x0 64)) x1).1 x0 64) + (1 : Int32)))), .int ((dc_wi (dc_wi m (x0 + 34) (Int32.toNatClampNeg (m.1 x0 64)) x1) x0 64 (((dc_wi m (x0 + 34) (Int32.toNatClampNeg (m.1 x0 64)) x1).1 x0 64) + (1 : Int32))).1 x0 64), .ref (x0 + 33)] rfl (fun _ => rfl) rfl ?_
          refine dg_m (pc' := 88) (dc_wi (dc_wi (dc_wi m (x0 + 34) (Int32.toNatClampNeg (m.1 x0 64)) x1) x0 64 (((dc_wi m (x0 + 34) (Int32.toNatClampNeg (m.1 x0 64)) x1).1 x0 64) + (1 : Int32))) (x0 + 33) (Int32.toNatClampNeg ((dc_wi (dc_wi m (x0 + 34) (Int32.toNatClampNeg (m.1 x0 64)) x1) x0 64 (((dc_wi m (x0 + 34) (Int32.toNatClampNeg (m.1 x0 64)) x1).1 x0 64) + (1 : Int32))).1 x0 64)) (d_X10_after x0 x1 (m.1 (x0 + 33) (Int32.toNatClampNeg (m.1 x0 64))) (dc_wi (dc_wi m (x0 + 34) (Int32.toNatClampNeg (m.1 x0 64)) x1) x0 64 (((dc_wi m (x0 + 34) (Int32.toNatClampNeg (m.1 x0 64)) x1).1 x0 64) + (1 : Int32))))) [] rfl (fun _ => rfl) rfl ?_
          refine dg_s (pc' := 89) [.ref x0] rfl (fun _ => rfl) rfl ?_
          refine dg_s (pc' := 92) [.int ((dc_wi (dc_wi (dc_wi m (x0 + 34) (Int32.toNatClampNeg (m.1 x0 64)) x1) x0 64 (((dc_wi m (x0 + 34) (Int32.toNatClampNeg (m.1 x0 64)) x1).1 x0 64) + (1 : Int32))) (x0 + 33) (Int32.toNatClampNeg ((dc_wi (dc_wi m (x0 + 34) (Int32.toNatClampNeg (m.1 x0 64)) x1) x0 64 (((dc_wi m (x0 + 34) (Int32.toNatClampNeg (m.1 x0 64)) x1).1 x0 64) + (1 : Int32))).1 x0 64)) (d_X10_after x0 x1 (m.1 (x0 + 33) (Int32.toNatClampNeg (m.1 x0 64))) (dc_wi (dc_wi m (x0 + 34) (Int32.toNatClampNeg (m.1 x0 64)) x1) x0 64 (((dc_wi m (x0 + 34) (Int32.toNatClampNeg (m.1 x0 64)) x1).1 x0 64) + (1 : Int32))))).1 x0 64)] rfl (fun _ => rfl) rfl ?_
          exact dw_r (some (.inl (some (.int ((dc_wi (dc_wi (dc_wi m (x0 + 34) (Int32.toNatClampNeg (m.1 x0 64)) x1) x0 64 (((dc_wi m (x0 + 34) (Int32.toNatClampNeg (m.1 x0 64)) x1).1 x0 64) + (1 : Int32))) (x0 + 33) (Int32.toNatClampNeg ((dc_wi (dc_wi m (x0 + 34) (Int32.toNatClampNeg (m.1 x0 64)) x1) x0 64 (((dc_wi m (x0 + 34) (Int32.toNatClampNeg (m.1 x0 64)) x1).1 x0 64) + (1 : Int32))).1 x0 64)) (d_X10_after x0 x1 (m.1 (x0 + 33) (Int32.toNatClampNeg (m.1 x0 64))) (dc_wi (dc_wi m (x0 + 34) (Int32.toNatClampNeg (m.1 x0 64)) x1) x0 64 (((dc_wi m (x0 + 34) (Int32.toNatClampNeg (m.1 x0 64)) x1).1 x0 64) + (1 : Int32))))).1 x0 64)), (dc_wi (dc_wi (dc_wi m (x0 + 34) (Int32.toNatClampNeg (m.1 x0 64)) x1) x0 64 (((dc_wi m (x0 + 34) (Int32.toNatClampNeg (m.1 x0 64)) x1).1 x0 64) + (1 : Int32))) (x0 + 33) (Int32.toNatClampNeg ((dc_wi (dc_wi m (x0 + 34) (Int32.toNatClampNeg (m.1 x0 64)) x1) x0 64 (((dc_wi m (x0 + 34) (Int32.toNatClampNeg (m.1 x0 64)) x1).1 x0 64) + (1 : Int32))).1 x0 64)) (d_X10_after x0 x1 (m.1 (x0 + 33) (Int32.toNatClampNeg (m.1 x0 64))) (dc_wi (dc_wi m (x0 + 34) (Int32.toNatClampNeg (m.1 x0 64)) x1) x0 64 (((dc_wi m (x0 + 34) (Int32.toNatClampNeg (m.1 x0 64)) x1).1 x0 64) + (1 : Int32)))))))) rfl (fun _ => rfl) (kR _ _)
        · refine dw_g rfl ?_
          refine dg_s (pc' := 52) [.int (-3 : Int32)] rfl (fun _ => rfl) rfl ?_
          exact dw_r (some (.inl (some (.int (-3 : Int32)), m))) rfl (fun _ => rfl) (kR _ _)
      · refine dw_g rfl ?_
        refine dg_s (pc' := 40) [.int (-2 : Int32)] rfl (fun _ => rfl) rfl ?_
        exact dw_r (some (.inl (some (.int (-2 : Int32)), m))) rfl (fun _ => rfl) (kR _ _)
  · refine dw_g rfl ?_
    refine dg_s (pc' := 9) [.int (-1 : Int32)] rfl (fun _ => rfl) rfl ?_
    exact dw_r (some (.inl (some (.int (-1 : Int32)), m))) rfl (fun _ => rfl) (kR _ _)
def H_X10_come : dc_H := fun As m k => match As with
  | [.ref x0, .int x1] => dc_let (d_X10_come x0 x1 m) (fun q => k (some (.int q.1)) q.2)
  | _ => dc_kz
theorem H_X10_come_ok {u : Nat} : dc_cok u 222 H_X10_come := fun M' hG N As m k P hz hP => by
  obtain rfl : ab_M_X10_come = M' := Option.some.inj hG
  unfold H_X10_come at hP
  split at hP
  · rename_i x0 x1
    exact dc_pv.imp (k_X10_come (Φ := fun (t : (Int32 × dc_M)) r m' => P (dc_let t (fun q => k (some (.int q.1)) q.2)) → P (k r m')) x0 x1 m (fun _ _ h => h) rfl rfl) (fun r m' h => h hP)
  · exact absurd hP hz
def C_X10_undo : List (Nat × dc_H) := []
theorem CO_X10_undo {u : Nat} : dc_CO u C_X10_undo := dc_CO_nil
def S_X10_undo : List (Nat × List Nat) := []
def d_X10_undo (x0 : Nat) (m : dc_M) : (Int32 × dc_M) :=
  (if ¬ (Int32.toInt (m.1 x0 64)) = 0 then (((dc_wi m x0 64 ((m.1 x0 64) - (1 : Int32))).1 x0 64), (dc_wi m x0 64 ((m.1 x0 64) - (1 : Int32)))) else ((-4 : Int32), m))
set_option maxHeartbeats 8000000 in
theorem k_X10_undo {u : Nat} {N : Nat} {Φ : (Int32 × dc_M) → Option Value → dc_M → Prop} (x0 : Nat) (m : dc_M) (kR : ∀ (v : Int32) (m : dc_M), Φ ((v, m)) (some (.int v)) m)  {lv : ab_L} (f0 : ab_lk lv 0 = some (.ref x0)) : dc_pv u N ab_M_X10_undo 0 lv [] m (Φ (d_X10_undo x0 m)) := by
  refine dc_pv.mono (dc_ok (C := C_X10_undo) (S := S_X10_undo) CO_X10_undo 400 0 [(0, .ref x0)] lv [] m (dc_sub_cons f0 (dc_sub_nil)) ?_) (Nat.le_succ N)
  unfold d_X10_undo
  refine dg_s (pc' := 1) [.ref x0] rfl (fun _ => rfl) rfl ?_
  refine dg_s (pc' := 4) [.int (m.1 x0 64)] rfl (fun _ => rfl) rfl ?_
  refine dw_if (fun t => Φ t) (¬ (Int32.toInt (m.1 x0 64)) = 0) [] 10 7 rfl (fun _ => rfl) (fun c0 => ?_) (fun c0 => ?_)
  · refine dw_g rfl ?_
    refine dg_s (pc' := 11) [.ref x0] rfl (fun _ => rfl) rfl ?_
    refine dg_s (pc' := 12) [.ref x0, .ref x0] rfl (fun _ => rfl) rfl ?_
    refine dg_s (pc' := 15) [.int (m.1 x0 64), .ref x0] rfl (fun _ => rfl) rfl ?_
    refine dg_s (pc' := 16) [.int (1 : Int32), .int (m.1 x0 64), .ref x0] rfl (fun _ => rfl) rfl ?_
    refine dg_s (pc' := 17) [.int ((m.1 x0 64) - (1 : Int32)), .ref x0] rfl (fun _ => rfl) rfl ?_
    refine dg_m (pc' := 20) (dc_wi m x0 64 ((m.1 x0 64) - (1 : Int32))) [] rfl (fun _ => rfl) rfl ?_
    refine dg_s (pc' := 21) [.ref x0] rfl (fun _ => rfl) rfl ?_
    refine dg_s (pc' := 24) [.int ((dc_wi m x0 64 ((m.1 x0 64) - (1 : Int32))).1 x0 64)] rfl (fun _ => rfl) rfl ?_
    exact dw_r (some (.inl (some (.int ((dc_wi m x0 64 ((m.1 x0 64) - (1 : Int32))).1 x0 64)), (dc_wi m x0 64 ((m.1 x0 64) - (1 : Int32)))))) rfl (fun _ => rfl) (kR _ _)
  · refine dw_g rfl ?_
    refine dg_s (pc' := 9) [.int (-4 : Int32)] rfl (fun _ => rfl) rfl ?_
    exact dw_r (some (.inl (some (.int (-4 : Int32)), m))) rfl (fun _ => rfl) (kR _ _)
def H_X10_undo : dc_H := fun As m k => match As with
  | [.ref x0] => dc_let (d_X10_undo x0 m) (fun q => k (some (.int q.1)) q.2)
  | _ => dc_kz
theorem H_X10_undo_ok {u : Nat} : dc_cok u 223 H_X10_undo := fun M' hG N As m k P hz hP => by
  obtain rfl : ab_M_X10_undo = M' := Option.some.inj hG
  unfold H_X10_undo at hP
  split at hP
  · rename_i x0
    exact dc_pv.imp (k_X10_undo (Φ := fun (t : (Int32 × dc_M)) r m' => P (dc_let t (fun q => k (some (.int q.1)) q.2)) → P (k r m')) x0 m (fun _ _ h => h) rfl) (fun r m' h => h hP)
  · exact absurd hP hz
def C_X10_run : List (Nat × dc_H) := [(169, H_X10_isReady)]
theorem CO_X10_run {u : Nat} : dc_CO u C_X10_run := dc_CO_cons H_X10_isReady_ok (dc_CO_nil)
def S_X10_run : List (Nat × List Nat) := [(4, [0, 1, 2, 3]), (45, [0, 1, 2])]
noncomputable def d_X10_run_b45 (x0 : Nat) (x1 : Int32) (x2 : Int32) (m : dc_M) : Option Int32 :=
  (if ¬ (Int32.toInt x1) = 0 then (if ¬ (Int32.toInt x1) = 1 then (if ¬ (Int32.toInt x1) = 2 then (if ¬ (Int32.toInt x1) = 3 then some ((-1 : Int32)) else (if ¬ (Int32.toInt (m.1 x0 64)) = 0 then some ((m.1 (x0 + 34) (Int32.toNatClampNeg ((m.1 x0 64) - (1 : Int32))))) else some ((-4 : Int32)))) else some ((m.1 x0 64))) else some (x2)) else some ((m.1 (x0 + 33) (Int32.toNatClampNeg (m.1 x0 64)))))
set_option maxHeartbeats 8000000 in
theorem k_X10_run_b45 {u : Nat} {N : Nat} {Φ : (Option Int32) → Option Value → dc_M → Prop} (x0 : Nat) (x1 : Int32) (x2 : Int32) (m : dc_M) (kR : ∀ (v : Int32), Φ (some (v)) (some (.int v)) m)  {lv : ab_L} (f0 : ab_lk lv 0 = some (.ref x0)) (f1 : ab_lk lv 1 = some (.int x1)) (f2 : ab_lk lv 2 = some (.int x2)) : dc_pv u N ab_M_X10_run 45 lv [] m (Φ (d_X10_run_b45 x0 x1 x2 m)) := by
  refine dc_pv.mono (dc_ok (C := C_X10_run) (S := S_X10_run) CO_X10_run 400 45 [(0, .ref x0), (1, .int x1), (2, .int x2)] lv [] m (dc_sub_cons f0 (dc_sub_cons f1 (dc_sub_cons f2 (dc_sub_nil)))) ?_) (Nat.le_succ N)
  unfold d_X10_run_b45
  refine dg_s (pc' := 46) [.int x1] rfl (fun _ => rfl) rfl ?_
  refine dw_if (fun t => Φ t) (¬ (Int32.toInt x1) = 0) [] 61 49 rfl (fun _ => rfl) (fun c0 => ?_) (fun c0 => ?_)
  · refine dw_g rfl ?_
    refine dg_s (pc' := 62) [.int x1] rfl (fun _ => rfl) rfl ?_
    refine dg_s (pc' := 63) [.int (1 : Int32), .int x1] rfl (fun _ => rfl) rfl ?_
    refine dw_if (fun t => Φ t) (¬ (Int32.toInt x1) = 1) [] 70 66 rfl (fun _ => rfl) (fun c1 => ?_) (fun c1 => ?_)
    · refine dw_g rfl ?_
      refine dg_s (pc' := 71) [.int x1] rfl (fun _ => rfl) rfl ?_
      refine dg_s (pc' := 72) [.int (2 : Int32), .int x1] rfl (fun _ => rfl) rfl ?_
      refine dw_if (fun t => Φ t) (¬ (Int32.toInt x1) = 2) [] 82 75 rfl (fun _ => rfl) (fun c2 => ?_) (fun c2 => ?_)
      · refine dw_g rfl ?_
        refine dg_s (pc' := 83) [.int x1] rfl (fun _ => rfl) rfl ?_
        refine dg_s (pc' := 84) [.int (3 : Int32), .int x1] rfl (fun _ => rfl) rfl ?_
        refine dw_if (fun t => Φ t) (¬ (Int32.toInt x1) = 3) [] 113 87 rfl (fun _ => rfl) (fun c3 => ?_) (fun c3 => ?_)
        · refine dw_g rfl ?_
          refine dg_s (pc' := 114) [.int (-1 : Int32)] rfl (fun _ => rfl) rfl ?_
          exact dw_r (some (.inl (some (.int (-1 : Int32)), m))) rfl (fun _ => rfl) (kR _)
        · refine dw_g rfl ?_
          refine dg_s (pc' := 88) [.ref x0] rfl (fun _ => rfl) rfl ?_
          refine dg_s (pc' := 91) [.int (m.1 x0 64)] rfl (fun _ => rfl) rfl ?_
          refine dw_if (fun t => Φ t) (¬ (Int32.toInt (m.1 x0 64)) = 0) [] 99 94 rfl (fun _ => rfl) (fun c4 => ?_) (fun c4 => ?_)
          · refine dw_g rfl ?_
            refine dg_s (pc' := 100) [.ref x0] rfl (fun _ => rfl) rfl ?_
            refine dg_s (pc' := 103) [.ref (x0 + 34)] rfl (fun _ => rfl) rfl ?_
            refine dg_s (pc' := 104) [.ref x0, .ref (x0 + 34)] rfl (fun _ => rfl) rfl ?_
            refine dg_s (pc' := 107) [.int (m.1 x0 64), .ref (x0 + 34)] rfl (fun _ => rfl) rfl ?_
            refine dg_s (pc' := 108) [.int (1 : Int32), .int (m.1 x0 64), .ref (x0 + 34)] rfl (fun _ => rfl) rfl ?_
            refine dg_s (pc' := 109) [.int ((m.1 x0 64) - (1 : Int32)), .ref (x0 + 34)] rfl (fun _ => rfl) rfl ?_
            refine dg_s (pc' := 110) [.int (m.1 (x0 + 34) (Int32.toNatClampNeg ((m.1 x0 64) - (1 : Int32))))] rfl (fun _ => rfl) rfl ?_
            refine dg_s (pc' := 114) [.int (m.1 (x0 + 34) (Int32.toNatClampNeg ((m.1 x0 64) - (1 : Int32))))] rfl (fun _ => rfl) rfl ?_
            exact dw_r (some (.inl (some (.int (m.1 (x0 + 34) (Int32.toNatClampNeg ((m.1 x0 64) - (1 : Int32))))), m))) rfl (fun _ => rfl) (kR _)
          · refine dw_g rfl ?_
            refine dg_s (pc' := 96) [.int (-4 : Int32)] rfl (fun _ => rfl) rfl ?_
            refine dg_s (pc' := 114) [.int (-4 : Int32)] rfl (fun _ => rfl) rfl ?_
            exact dw_r (some (.inl (some (.int (-4 : Int32)), m))) rfl (fun _ => rfl) (kR _)
      · refine dw_g rfl ?_
        refine dg_s (pc' := 76) [.ref x0] rfl (fun _ => rfl) rfl ?_
        refine dg_s (pc' := 79) [.int (m.1 x0 64)] rfl (fun _ => rfl) rfl ?_
        refine dg_s (pc' := 114) [.int (m.1 x0 64)] rfl (fun _ => rfl) rfl ?_
        exact dw_r (some (.inl (some (.int (m.1 x0 64)), m))) rfl (fun _ => rfl) (kR _)
    · refine dw_g rfl ?_
      refine dg_s (pc' := 67) [.int x2] rfl (fun _ => rfl) rfl ?_
      refine dg_s (pc' := 114) [.int x2] rfl (fun _ => rfl) rfl ?_
      exact dw_r (some (.inl (some (.int x2), m))) rfl (fun _ => rfl) (kR _)
  · refine dw_g rfl ?_
    refine dg_s (pc' := 50) [.ref x0] rfl (fun _ => rfl) rfl ?_
    refine dg_s (pc' := 53) [.ref (x0 + 33)] rfl (fun _ => rfl) rfl ?_
    refine dg_s (pc' := 54) [.ref x0, .ref (x0 + 33)] rfl (fun _ => rfl) rfl ?_
    refine dg_s (pc' := 57) [.int (m.1 x0 64), .ref (x0 + 33)] rfl (fun _ => rfl) rfl ?_
    refine dg_s (pc' := 58) [.int (m.1 (x0 + 33) (Int32.toNatClampNeg (m.1 x0 64)))] rfl (fun _ => rfl) rfl ?_
    refine dg_s (pc' := 114) [.int (m.1 (x0 + 33) (Int32.toNatClampNeg (m.1 x0 64)))] rfl (fun _ => rfl) rfl ?_
    exact dw_r (some (.inl (some (.int (m.1 (x0 + 33) (Int32.toNatClampNeg (m.1 x0 64)))), m))) rfl (fun _ => rfl) (kR _)
noncomputable def d_X10_run_l4b (x0 : Nat) (x1 : Int32) (x2 : Int32) (x3 : Int32) (m : dc_M) : Option ((Int32 × Int32) ⊕ Int32) :=
  (if (Int32.toInt (m.1 x0 3)) ≤ (Int32.toInt x3) then ((d_X10_run_b45 x0 x1 x2 m).map (fun z => Sum.inr (z))) else (if (Int32.toInt (d_X10_isReady x0 x3 (m.1 (x0 + 33) (Int32.toNatClampNeg (m.1 x0 64))) m)) = 0 then some (Sum.inl ((x2 ||| (0 : Int32)), (x3 + (1 : Int32)))) else some (Sum.inl ((x2 ||| ((1 : Int32) <<< (x3 &&& 31))), (x3 + (1 : Int32))))))
noncomputable def d_X10_run_l4s (x0 : Nat) (x1 : Int32) (m : dc_M) : (Int32 × Int32) → Option ((Int32 × Int32) ⊕ Int32) := fun s => d_X10_run_l4b x0 x1 s.1 s.2 m
noncomputable def d_X10_run_l4 (x0 : Nat) (x1 : Int32) (x2 : Int32) (x3 : Int32) (m : dc_M) : Option Int32 := dc_lp (d_X10_run_l4s x0 x1 m) (x2, x3)
set_option maxHeartbeats 8000000 in
theorem k_X10_run_l4 {u : Nat} {Φ : (Option Int32) → Option Value → dc_M → Prop} (x0 : Nat) (x1 : Int32) (m : dc_M) (kR : ∀ (v : Int32), Φ (some (v)) (some (.int v)) m) : ∀ (N : Nat), ∀ (x2 : Int32) (x3 : Int32) (lv : ab_L), ab_lk lv 0 = some (.ref x0) → ab_lk lv 1 = some (.int x1) → ab_lk lv 2 = some (.int x2) → ab_lk lv 3 = some (.int x3) → dc_pv u N ab_M_X10_run 4 lv [] m (Φ (d_X10_run_l4 x0 x1 x2 x3 m)) := by
  intro N
  induction N with
  | zero => intros; exact dc_pv_zero
  | succ N ih =>
    intro x2 x3 lv f0 f1 f2 f3
    refine dc_ok (C := C_X10_run) (S := S_X10_run) CO_X10_run 400 4 [(0, .ref x0), (1, .int x1), (2, .int x2), (3, .int x3)] lv [] m (dc_sub_cons f0 (dc_sub_cons f1 (dc_sub_cons f2 (dc_sub_cons f3 (dc_sub_nil))))) ?_
    unfold d_X10_run_l4
    rw [dc_lp_eq]
    show (fun t x => dc_lf u N ab_M_X10_run (Φ (Option.bind t (dc_bk (d_X10_run_l4s x0 x1 m)))) x) (d_X10_run_l4b x0 x1 x2 x3 m) _
    dsimp only
    unfold d_X10_run_l4b
    refine dg_s (pc' := 5) [.int x3] rfl (fun _ => rfl) rfl ?_
    refine dg_s (pc' := 6) [.ref x0, .int x3] rfl (fun _ => rfl) rfl ?_
    refine dg_s (pc' := 9) [.int (m.1 x0 3), .int x3] rfl (fun _ => rfl) rfl ?_
    refine dw_if (fun t => Φ (Option.bind t (dc_bk (d_X10_run_l4s x0 x1 m)))) ((Int32.toInt (m.1 x0 3)) ≤ (Int32.toInt x3)) [] 45 12 rfl (fun _ => rfl) (fun c0 => ?_) (fun c0 => ?_)
    · exact dw_j rfl (fun lv1 hv => k_X10_run_b45 (Φ := (fun t => Φ (Option.bind (t.map (fun z => Sum.inr (z))) (dc_bk (d_X10_run_l4s x0 x1 m))))) x0 x1 x2 m (fun _a  => kR _a)  (hv.1 _ rfl) (hv.2.1 _ rfl) (hv.2.2.1 _ rfl))
    · refine dw_g rfl ?_
      refine dg_s (pc' := 13) [.int x2] rfl (fun _ => rfl) rfl ?_
      refine dg_s (pc' := 14) [.ref x0, .int x2] rfl (fun _ => rfl) rfl ?_
      refine dg_s (pc' := 15) [.int x3, .ref x0, .int x2] rfl (fun _ => rfl) rfl ?_
      refine dg_s (pc' := 16) [.ref x0, .int x3, .ref x0, .int x2] rfl (fun _ => rfl) rfl ?_
      refine dg_s (pc' := 19) [.ref (x0 + 33), .int x3, .ref x0, .int x2] rfl (fun _ => rfl) rfl ?_
      refine dg_s (pc' := 20) [.ref x0, .ref (x0 + 33), .int x3, .ref x0, .int x2] rfl (fun _ => rfl) rfl ?_
      refine dg_s (pc' := 23) [.int (m.1 x0 64), .ref (x0 + 33), .int x3, .ref x0, .int x2] rfl (fun _ => rfl) rfl ?_
      refine dg_s (pc' := 24) [.int (m.1 (x0 + 33) (Int32.toNatClampNeg (m.1 x0 64))), .int x3, .ref x0, .int x2] rfl (fun _ => rfl) rfl ?_
      refine dg_s (pc' := 27) [.int (d_X10_isReady x0 x3 (m.1 (x0 + 33) (Int32.toNatClampNeg (m.1 x0 64))) m), .int x2] rfl (fun _ => rfl) rfl ?_
      refine dw_if (fun t => Φ (Option.bind t (dc_bk (d_X10_run_l4s x0 x1 m)))) ((Int32.toInt (d_X10_isReady x0 x3 (m.1 (x0 + 33) (Int32.toNatClampNeg (m.1 x0 64))) m)) = 0) [.int x2] 36 30 rfl (fun _ => rfl) (fun c1 => ?_) (fun c1 => ?_)
      · refine dw_g rfl ?_
        refine dg_s (pc' := 37) [.int (0 : Int32), .int x2] rfl (fun _ => rfl) rfl ?_
        refine dg_s (pc' := 38) [.int (x2 ||| (0 : Int32))] rfl (fun _ => rfl) rfl ?_
        refine dg_L (pc' := 39) [(2, .int (x2 ||| (0 : Int32))), (0, .ref x0), (1, .int x1), (3, .int x3)] [] rfl (fun _ => rfl) rfl ?_
        refine dg_L (pc' := 42) [(3, .int (x3 + (1 : Int32))), (2, .int (x2 ||| (0 : Int32))), (0, .ref x0), (1, .int x1)] [] rfl (fun _ => rfl) rfl ?_
        refine dw_s (pc' := 4) [] rfl (fun _ => rfl) ?_
        exact dw_j rfl (fun lv1 hv => ih (x2 ||| (0 : Int32)) (x3 + (1 : Int32)) lv1 (hv.1 _ rfl) (hv.2.1 _ rfl) (hv.2.2.1 _ rfl) (hv.2.2.2.1 _ rfl))
      · refine dw_g rfl ?_
        refine dg_s (pc' := 31) [.int (1 : Int32), .int x2] rfl (fun _ => rfl) rfl ?_
        refine dg_s (pc' := 32) [.int x3, .int (1 : Int32), .int x2] rfl (fun _ => rfl) rfl ?_
        refine dg_s (pc' := 33) [.int ((1 : Int32) <<< (x3 &&& 31)), .int x2] rfl (fun _ => rfl) rfl ?_
        refine dg_s (pc' := 37) [.int ((1 : Int32) <<< (x3 &&& 31)), .int x2] rfl (fun _ => rfl) rfl ?_
        refine dg_s (pc' := 38) [.int (x2 ||| ((1 : Int32) <<< (x3 &&& 31)))] rfl (fun _ => rfl) rfl ?_
        refine dg_L (pc' := 39) [(2, .int (x2 ||| ((1 : Int32) <<< (x3 &&& 31)))), (0, .ref x0), (1, .int x1), (3, .int x3)] [] rfl (fun _ => rfl) rfl ?_
        refine dg_L (pc' := 42) [(3, .int (x3 + (1 : Int32))), (2, .int (x2 ||| ((1 : Int32) <<< (x3 &&& 31)))), (0, .ref x0), (1, .int x1)] [] rfl (fun _ => rfl) rfl ?_
        refine dw_s (pc' := 4) [] rfl (fun _ => rfl) ?_
        exact dw_j rfl (fun lv1 hv => ih (x2 ||| ((1 : Int32) <<< (x3 &&& 31))) (x3 + (1 : Int32)) lv1 (hv.1 _ rfl) (hv.2.1 _ rfl) (hv.2.2.1 _ rfl) (hv.2.2.2.1 _ rfl))
noncomputable def d_X10_run (x0 : Nat) (x1 : Int32) (m : dc_M) : Option Int32 :=
  (d_X10_run_l4 x0 x1 (0 : Int32) (0 : Int32) m)
set_option maxHeartbeats 8000000 in
theorem k_X10_run {u : Nat} {N : Nat} {Φ : (Option Int32) → Option Value → dc_M → Prop} (x0 : Nat) (x1 : Int32) (m : dc_M) (kR : ∀ (v : Int32), Φ (some (v)) (some (.int v)) m)  {lv : ab_L} (f0 : ab_lk lv 0 = some (.ref x0)) (f1 : ab_lk lv 1 = some (.int x1)) : dc_pv u N ab_M_X10_run 0 lv [] m (Φ (d_X10_run x0 x1 m)) := by
  refine dc_pv.mono (dc_ok (C := C_X10_run) (S := S_X10_run) CO_X10_run 400 0 [(0, .ref x0), (1, .int x1)] lv [] m (dc_sub_cons f0 (dc_sub_cons f1 (dc_sub_nil))) ?_) (Nat.le_succ N)
  unfold d_X10_run
  refine dg_s (pc' := 1) [.int (0 : Int32)] rfl (fun _ => rfl) rfl ?_
  refine dg_L (pc' := 2) [(2, .int (0 : Int32)), (0, .ref x0), (1, .int x1)] [] rfl (fun _ => rfl) rfl ?_
  refine dg_s (pc' := 3) [.int (0 : Int32)] rfl (fun _ => rfl) rfl ?_
  refine dw_L (pc' := 4) [(3, .int (0 : Int32)), (2, .int (0 : Int32)), (0, .ref x0), (1, .int x1)] [] rfl (fun _ => rfl) ?_
  exact dw_j rfl (fun lv1 hv => k_X10_run_l4 (Φ := (fun t => Φ t)) x0 x1 m (fun _a  => kR _a) N  (0 : Int32) (0 : Int32) lv1 (hv.1 _ rfl) (hv.2.1 _ rfl) (hv.2.2.1 _ rfl) (hv.2.2.2.1 _ rfl))
noncomputable def H_X10_run : dc_H := fun As m k => match As with
  | [.ref x0, .int x1] => (d_X10_run x0 x1 m).bind (fun q => k (some (.int q)) m)
  | _ => dc_kz
theorem H_X10_run_ok {u : Nat} : dc_cok u 224 H_X10_run := fun M' hG N As m k P hz hP => by
  obtain rfl : ab_M_X10_run = M' := Option.some.inj hG
  unfold H_X10_run at hP
  split at hP
  · rename_i x0 x1
    exact dc_pv.imp (k_X10_run (Φ := fun (t : Option Int32) r m' => P (t.bind (fun q => k (some (.int q)) m)) → P (k r m')) x0 x1 m (fun _  h => h) rfl rfl) (fun r m' h => h hP)
  · exact absurd hP hz
def C_X10_sheet : List (Nat × dc_H) := [(146, H_X10_in)]
theorem CO_X10_sheet {u : Nat} : dc_CO u C_X10_sheet := dc_CO_cons H_X10_in_ok (dc_CO_nil)
def S_X10_sheet : List (Nat × List Nat) := [(56, [0, 1, 4])]
noncomputable def d_X10_sheet_l56b (x0 : Nat) (x1 : Int32) (x4 : Int32) (m : dc_M) : Option ((Int32 × dc_M) ⊕ (Int32 × dc_M)) :=
  (if 64 ≤ (Int32.toInt x4) then some (Sum.inr (((1 : Int32), m))) else some (Sum.inl ((x4 + (1 : Int32)), (dc_wi m (x0 + 37) (Int32.toNatClampNeg (((64 : Int32) * x1) + x4)) (0 : Int32)))))
noncomputable def d_X10_sheet_l56s (x0 : Nat) (x1 : Int32) : (Int32 × dc_M) → Option ((Int32 × dc_M) ⊕ (Int32 × dc_M)) := fun s => d_X10_sheet_l56b x0 x1 s.1 s.2
noncomputable def d_X10_sheet_l56 (x0 : Nat) (x1 : Int32) (x4 : Int32) (m : dc_M) : Option (Int32 × dc_M) := dc_lp (d_X10_sheet_l56s x0 x1) (x4, m)
set_option maxHeartbeats 8000000 in
theorem k_X10_sheet_l56 {u : Nat} {Φ : (Option (Int32 × dc_M)) → Option Value → dc_M → Prop} (x0 : Nat) (x1 : Int32) (kR : ∀ (v : Int32) (m : dc_M), Φ (some ((v, m))) (some (.int v)) m) : ∀ (N : Nat), ∀ (x4 : Int32) (m : dc_M) (lv : ab_L), ab_lk lv 0 = some (.ref x0) → ab_lk lv 1 = some (.int x1) → ab_lk lv 4 = some (.int x4) → dc_pv u N ab_M_X10_sheet 56 lv [] m (Φ (d_X10_sheet_l56 x0 x1 x4 m)) := by
  intro N
  induction N with
  | zero => intros; exact dc_pv_zero
  | succ N ih =>
    intro x4 m lv f0 f1 f4
    refine dc_ok (C := C_X10_sheet) (S := S_X10_sheet) CO_X10_sheet 400 56 [(0, .ref x0), (1, .int x1), (4, .int x4)] lv [] m (dc_sub_cons f0 (dc_sub_cons f1 (dc_sub_cons f4 (dc_sub_nil)))) ?_
    unfold d_X10_sheet_l56
    rw [dc_lp_eq]
    show (fun t x => dc_lf u N ab_M_X10_sheet (Φ (Option.bind t (dc_bk (d_X10_sheet_l56s x0 x1)))) x) (d_X10_sheet_l56b x0 x1 x4 m) _
    dsimp only
    unfold d_X10_sheet_l56b
    refine dg_s (pc' := 58) [.int x4] rfl (fun _ => rfl) rfl ?_
    refine dg_s (pc' := 60) [.int (64 : Int32), .int x4] rfl (fun _ => rfl) rfl ?_
    refine dw_if (fun t => Φ (Option.bind t (dc_bk (d_X10_sheet_l56s x0 x1)))) (64 ≤ (Int32.toInt x4)) [] 82 63 rfl (fun _ => rfl) (fun c0 => ?_) (fun c0 => ?_)
    · refine dw_g rfl ?_
      refine dg_s (pc' := 83) [.int (1 : Int32)] rfl (fun _ => rfl) rfl ?_
      exact dw_r (some (.inl (some (.int (1 : Int32)), m))) rfl (fun _ => rfl) (kR _ _)
    · refine dw_g rfl ?_
      refine dg_s (pc' := 64) [.ref x0] rfl (fun _ => rfl) rfl ?_
      refine dg_s (pc' := 67) [.ref (x0 + 37)] rfl (fun _ => rfl) rfl ?_
      refine dg_s (pc' := 69) [.int (64 : Int32), .ref (x0 + 37)] rfl (fun _ => rfl) rfl ?_
      refine dg_s (pc' := 70) [.int x1, .int (64 : Int32), .ref (x0 + 37)] rfl (fun _ => rfl) rfl ?_
      refine dg_s (pc' := 71) [.int ((64 : Int32) * x1), .ref (x0 + 37)] rfl (fun _ => rfl) rfl ?_
      refine dg_s (pc' := 73) [.int x4, .int ((64 : Int32) * x1), .ref (x0 + 37)] rfl (fun _ => rfl) rfl ?_
      refine dg_s (pc' := 74) [.int (((64 : Int32) * x1) + x4), .ref (x0 + 37)] rfl (fun _ => rfl) rfl ?_
      refine dg_s (pc' := 75) [.int (0 : Int32), .int (((64 : Int32) * x1) + x4), .ref (x0 + 37)] rfl (fun _ => rfl) rfl ?_
      refine dg_m (pc' := 76) (dc_wi m (x0 + 37) (Int32.toNatClampNeg (((64 : Int32) * x1) + x4)) (0 : Int32)) [] rfl (fun _ => rfl) rfl ?_
      refine dg_L (pc' := 79) [(4, .int (x4 + (1 : Int32))), (0, .ref x0), (1, .int x1)] [] rfl (fun _ => rfl) rfl ?_
      refine dw_s (pc' := 56) [] rfl (fun _ => rfl) ?_
      exact dw_j rfl (fun lv1 hv => ih (x4 + (1 : Int32)) (dc_wi m (x0 + 37) (Int32.toNatClampNeg (((64 : Int32) * x1) + x4)) (0 : Int32)) lv1 (hv.1 _ rfl) (hv.2.1 _ rfl) (hv.2.2.1 _ rfl))
noncomputable def d_X10_sheet (x0 : Nat) (x1 : Int32) (x2 : Int32) (x3 : Int32) (m : dc_M) : Option (Int32 × dc_M) :=
  (if (Int32.toInt (d_X10_in (Int32.toInt64 x1) (0 : Int64) (3 : Int64) m)) = 0 then some (((-1 : Int32), m)) else (if (Int32.toInt (d_X10_in (Int32.toInt64 x2) (0 : Int64) (2 : Int64) m)) = 0 then some (((-1 : Int32), m)) else (if (Int32.toInt x3) ≤ 64 then (if 0 ≤ (Int32.toInt x3) then (d_X10_sheet_l56 x0 x1 (0 : Int32) (dc_wi (dc_wi m (x0 + 35) (Int32.toNatClampNeg x1) x2) (x0 + 36) (Int32.toNatClampNeg x1) x3)) else some (((-14 : Int32), m))) else some (((-1 : Int32), m)))))
set_option maxHeartbeats 8000000 in
theorem k_X10_sheet {u : Nat} {N : Nat} {Φ : (Option (Int32 × dc_M)) → Option Value → dc_M → Prop} (x0 : Nat) (x1 : Int32) (x2 : Int32) (x3 : Int32) (m : dc_M) (kR : ∀ (v : Int32) (m : dc_M), Φ (some ((v, m))) (some (.int v)) m)  {lv : ab_L} (f0 : ab_lk lv 0 = some (.ref x0)) (f1 : ab_lk lv 1 = some (.int x1)) (f2 : ab_lk lv 2 = some (.int x2)) (f3 : ab_lk lv 3 = some (.int x3)) : dc_pv u N ab_M_X10_sheet 0 lv [] m (Φ (d_X10_sheet x0 x1 x2 x3 m)) := by
  refine dc_pv.mono (dc_ok (C := C_X10_sheet) (S := S_X10_sheet) CO_X10_sheet 400 0 [(0, .ref x0), (1, .int x1), (2, .int x2), (3, .int x3)] lv [] m (dc_sub_cons f0 (dc_sub_cons f1 (dc_sub_cons f2 (dc_sub_cons f3 (dc_sub_nil))))) ?_) (Nat.le_succ N)
  unfold d_X10_sheet
  refine dg_s (pc' := 1) [.int x1] rfl (fun _ => rfl) rfl ?_
  refine dg_s (pc' := 2) [.long (Int32.toInt64 x1)] rfl (fun _ => rfl) rfl ?_
  refine dg_s (pc' := 3) [.long (0 : Int64), .long (Int32.toInt64 x1)] rfl (fun _ => rfl) rfl ?_
  refine dg_s (pc' := 6) [.long (3 : Int64), .long (0 : Int64), .long (Int32.toInt64 x1)] rfl (fun _ => rfl) rfl ?_
  refine dg_s (pc' := 9) [.int (d_X10_in (Int32.toInt64 x1) (0 : Int64) (3 : Int64) m)] rfl (fun _ => rfl) rfl ?_
  refine dw_if (fun t => Φ t) ((Int32.toInt (d_X10_in (Int32.toInt64 x1) (0 : Int64) (3 : Int64) m)) = 0) [] 30 12 rfl (fun _ => rfl) (fun c0 => ?_) (fun c0 => ?_)
  · refine dw_g rfl ?_
    refine dg_s (pc' := 31) [.int (-1 : Int32)] rfl (fun _ => rfl) rfl ?_
    exact dw_r (some (.inl (some (.int (-1 : Int32)), m))) rfl (fun _ => rfl) (kR _ _)
  · refine dw_g rfl ?_
    refine dg_s (pc' := 13) [.int x2] rfl (fun _ => rfl) rfl ?_
    refine dg_s (pc' := 14) [.long (Int32.toInt64 x2)] rfl (fun _ => rfl) rfl ?_
    refine dg_s (pc' := 15) [.long (0 : Int64), .long (Int32.toInt64 x2)] rfl (fun _ => rfl) rfl ?_
    refine dg_s (pc' := 18) [.long (2 : Int64), .long (0 : Int64), .long (Int32.toInt64 x2)] rfl (fun _ => rfl) rfl ?_
    refine dg_s (pc' := 21) [.int (d_X10_in (Int32.toInt64 x2) (0 : Int64) (2 : Int64) m)] rfl (fun _ => rfl) rfl ?_
    refine dw_if (fun t => Φ t) ((Int32.toInt (d_X10_in (Int32.toInt64 x2) (0 : Int64) (2 : Int64) m)) = 0) [] 30 24 rfl (fun _ => rfl) (fun c1 => ?_) (fun c1 => ?_)
    · refine dw_g rfl ?_
      refine dg_s (pc' := 31) [.int (-1 : Int32)] rfl (fun _ => rfl) rfl ?_
      exact dw_r (some (.inl (some (.int (-1 : Int32)), m))) rfl (fun _ => rfl) (kR _ _)
    · refine dw_g rfl ?_
      refine dg_s (pc' := 25) [.int x3] rfl (fun _ => rfl) rfl ?_
      refine dg_s (pc' := 27) [.int (64 : Int32), .int x3] rfl (fun _ => rfl) rfl ?_
      refine dw_if (fun t => Φ t) ((Int32.toInt x3) ≤ 64) [] 32 30 rfl (fun _ => rfl) (fun c2 => ?_) (fun c2 => ?_)
      · refine dw_g rfl ?_
        refine dg_s (pc' := 33) [.int x3] rfl (fun _ => rfl) rfl ?_
        refine dw_if (fun t => Φ t) (0 ≤ (Int32.toInt x3)) [] 39 36 rfl (fun _ => rfl) (fun c3 => ?_) (fun c3 => ?_)
        · refine dw_g rfl ?_
          refine dg_s (pc' := 40) [.ref x0] rfl (fun _ => rfl) rfl ?_
          refine dg_s (pc' := 43) [.ref (x0 + 35)] rfl (fun _ => rfl) rfl ?_
          refine dg_s (pc' := 44) [.int x1, .ref (x0 + 35)] rfl (fun _ => rfl) rfl ?_
          refine dg_s (pc' := 45) [.int x2, .int x1, .ref (x0 + 35)] rfl (fun _ => rfl) rfl ?_
          refine dg_m (pc' := 46) (dc_wi m (x0 + 35) (Int32.toNatClampNeg x1) x2) [] rfl (fun _ => rfl) rfl ?_
          refine dg_s (pc' := 47) [.ref x0] rfl (fun _ => rfl) rfl ?_
          refine dg_s (pc' := 50) [.ref (x0 + 36)] rfl (fun _ => rfl) rfl ?_
          refine dg_s (pc' := 51) [.int x1, .ref (x0 + 36)] rfl (fun _ => rfl) rfl ?_
          refine dg_s (pc' := 52) [.int x3, .int x1, .ref (x0 + 36)] rfl (fun _ => rfl) rfl ?_
          refine dg_m (pc' := 53) (dc_wi (dc_wi m (x0 + 35) (Int32.toNatClampNeg x1) x2) (x0 + 36) (Int32.toNatClampNeg x1) x3) [] rfl (fun _ => rfl) rfl ?_
          refine dg_s (pc' := 54) [.int (0 : Int32)] rfl (fun _ => rfl) rfl ?_
          refine dw_L (pc' := 56) [(4, .int (0 : Int32)), (0, .ref x0), (1, .int x1), (2, .int x2), (3, .int x3)] [] rfl (fun _ => rfl) ?_
          exact dw_j rfl (fun lv1 hv => k_X10_sheet_l56 (Φ := (fun t => Φ t)) x0 x1 (fun _a _b => kR _a _b) N  (0 : Int32) (dc_wi (dc_wi m (x0 + 35) (Int32.toNatClampNeg x1) x2) (x0 + 36) (Int32.toNatClampNeg x1) x3) lv1 (hv.1 _ rfl) (hv.2.1 _ rfl) (hv.2.2.1 _ rfl))
        · refine dw_g rfl ?_
          refine dg_s (pc' := 38) [.int (-14 : Int32)] rfl (fun _ => rfl) rfl ?_
          exact dw_r (some (.inl (some (.int (-14 : Int32)), m))) rfl (fun _ => rfl) (kR _ _)
      · refine dw_g rfl ?_
        refine dg_s (pc' := 31) [.int (-1 : Int32)] rfl (fun _ => rfl) rfl ?_
        exact dw_r (some (.inl (some (.int (-1 : Int32)), m))) rfl (fun _ => rfl) (kR _ _)
noncomputable def H_X10_sheet : dc_H := fun As m k => match As with
  | [.ref x0, .int x1, .int x2, .int x3] => (d_X10_sheet x0 x1 x2 x3 m).bind (fun q => k (some (.int q.1)) q.2)
  | _ => dc_kz
theorem H_X10_sheet_ok {u : Nat} : dc_cok u 225 H_X10_sheet := fun M' hG N As m k P hz hP => by
  obtain rfl : ab_M_X10_sheet = M' := Option.some.inj hG
  unfold H_X10_sheet at hP
  split at hP
  · rename_i x0 x1 x2 x3
    exact dc_pv.imp (k_X10_sheet (Φ := fun (t : Option (Int32 × dc_M)) r m' => P (t.bind (fun q => k (some (.int q.1)) q.2)) → P (k r m')) x0 x1 x2 x3 m (fun _ _ h => h) rfl rfl rfl rfl) (fun r m' h => h hP)
  · exact absurd hP hz
def C_X10_lay : List (Nat × dc_H) := [(146, H_X10_in)]
theorem CO_X10_lay {u : Nat} : dc_CO u C_X10_lay := dc_CO_cons H_X10_in_ok (dc_CO_nil)
def S_X10_lay : List (Nat × List Nat) := []
def d_X10_lay (x0 : Nat) (x1 : Int32) (x2 : Int32) (x3 : Int32) (m : dc_M) : (Int32 × dc_M) :=
  (if ¬ (Int32.toInt (d_X10_in (Int32.toInt64 x1) (0 : Int64) (3 : Int64) m)) = 0 then (if ¬ (Int32.toInt (m.1 (x0 + 35) (Int32.toNatClampNeg x1))) = (-4) then (if ¬ (Int32.toInt (d_X10_in (Int32.toInt64 x2) (0 : Int64) (Int32.toInt64 ((m.1 (x0 + 36) (Int32.toNatClampNeg x1)) - (1 : Int32))) m)) = 0 then (if ¬ (Int32.toInt (m.1 (x0 + 35) (Int32.toNatClampNeg x1))) = 0 then (if ¬ (Int32.toInt (m.1 (x0 + 35) (Int32.toNatClampNeg x1))) = 1 then ((1 : Int32), (dc_wi m (x0 + 37) (Int32.toNatClampNeg (((64 : Int32) * x1) + x2)) x3)) else ((1 : Int32), (dc_wi m (x0 + 37) (Int32.toNatClampNeg (((64 : Int32) * x1) + x2)) ((x3 <<< ((16 : Int32) &&& 31)) >>> ((16 : Int32) &&& 31))))) else ((1 : Int32), (dc_wi m (x0 + 37) (Int32.toNatClampNeg (((64 : Int32) * x1) + x2)) ((x3 <<< ((24 : Int32) &&& 31)) >>> ((24 : Int32) &&& 31))))) else ((-12 : Int32), m)) else ((-11 : Int32), m)) else ((-1 : Int32), m))
set_option maxHeartbeats 8000000 in
theorem k_X10_lay {u : Nat} {N : Nat} {Φ : (Int32 × dc_M) → Option Value → dc_M → Prop} (x0 : Nat) (x1 : Int32) (x2 : Int32) (x3 : Int32) (m : dc_M) (kR : ∀ (v : Int32) (m : dc_M), Φ ((v, m)) (some (.int v)) m)  {lv : ab_L} (f0 : ab_lk lv 0 = some (.ref x0)) (f1 : ab_lk lv 1 = some (.int x1)) (f2 : ab_lk lv 2 = some (.int x2)) (f3 : ab_lk lv 3 = some (.int x3)) : dc_pv u N ab_M_X10_lay 0 lv [] m (Φ (d_X10_lay x0 x1 x2 x3 m)) := by
  refine dc_pv.mono (dc_ok (C := C_X10_lay) (S := S_X10_lay) CO_X10_lay 400 0 [(0, .ref x0), (1, .int x1), (2, .int x2), (3, .int x3)] lv [] m (dc_sub_cons f0 (dc_sub_cons f1 (dc_sub_cons f2 (dc_sub_cons f3 (dc_sub_nil))))) ?_) (Nat.le_succ N)
  unfold d_X10_lay
  refine dg_s (pc' := 1) [.int x1] rfl (fun _ => rfl) rfl ?_
  refine dg_s (pc' := 2) [.long (Int32.toInt64 x1)] rfl (fun _ => rfl) rfl ?_
  refine dg_s (pc' := 3) [.long (0 : Int64), .long (Int32.toInt64 x1)] rfl (fun _ => rfl) rfl ?_
  refine dg_s (pc' := 6) [.long (3 : Int64), .long (0 : Int64), .long (Int32.toInt64 x1)] rfl (fun _ => rfl) rfl ?_
  refine dg_s (pc' := 9) [.int (d_X10_in (Int32.toInt64 x1) (0 : Int64) (3 : Int64) m)] rfl (fun _ => rfl) rfl ?_
  refine dw_if (fun t => Φ t) (¬ (Int32.toInt (d_X10_in (Int32.toInt64 x1) (0 : Int64) (3 : Int64) m)) = 0) [] 14 12 rfl (fun _ => rfl) (fun c0 => ?_) (fun c0 => ?_)
  · refine dw_g rfl ?_
    refine dg_s (pc' := 15) [.ref x0] rfl (fun _ => rfl) rfl ?_
    refine dg_s (pc' := 18) [.ref (x0 + 35)] rfl (fun _ => rfl) rfl ?_
    refine dg_s (pc' := 19) [.int x1, .ref (x0 + 35)] rfl (fun _ => rfl) rfl ?_
    refine dg_s (pc' := 20) [.int (m.1 (x0 + 35) (Int32.toNatClampNeg x1))] rfl (fun _ => rfl) rfl ?_
    refine dg_s (pc' := 22) [.int (-4 : Int32), .int (m.1 (x0 + 35) (Int32.toNatClampNeg x1))] rfl (fun _ => rfl) rfl ?_
    refine dw_if (fun t => Φ t) (¬ (Int32.toInt (m.1 (x0 + 35) (Int32.toNatClampNeg x1))) = (-4)) [] 28 25 rfl (fun _ => rfl) (fun c1 => ?_) (fun c1 => ?_)
    · refine dw_g rfl ?_
      refine dg_s (pc' := 29) [.int x2] rfl (fun _ => rfl) rfl ?_
      refine dg_s (pc' := 30) [.long (Int32.toInt64 x2)] rfl (fun _ => rfl) rfl ?_
      refine dg_s (pc' := 31) [.long (0 : Int64), .long (Int32.toInt64 x2)] rfl (fun _ => rfl) rfl ?_
      refine dg_s (pc' := 32) [.ref x0, .long (0 : Int64), .long (Int32.toInt64 x2)] rfl (fun _ => rfl) rfl ?_
      refine dg_s (pc' := 35) [.ref (x0 + 36), .long (0 : Int64), .long (Int32.toInt64 x2)] rfl (fun _ => rfl) rfl ?_
      refine dg_s (pc' := 36) [.int x1, .ref (x0 + 36), .long (0 : Int64), .long (Int32.toInt64 x2)] rfl (fun _ => rfl) rfl ?_
      refine dg_s (pc' := 37) [.int (m.1 (x0 + 36) (Int32.toNatClampNeg x1)), .long (0 : Int64), .long (Int32.toInt64 x2)] rfl (fun _ => rfl) rfl ?_
      refine dg_s (pc' := 38) [.int (1 : Int32), .int (m.1 (x0 + 36) (Int32.toNatClampNeg x1)), .long (0 : Int64), .long (Int32.toInt64 x2)] rfl (fun _ => rfl) rfl ?_
      refine dg_s (pc' := 39) [.int ((m.1 (x0 + 36) (Int32.toNatClampNeg x1)) - (1 : Int32)), .long (0 : Int64), .long (Int32.toInt64 x2)] rfl (fun _ => rfl) rfl ?_
      refine dg_s (pc' := 40) [.long (Int32.toInt64 ((m.1 (x0 + 36) (Int32.toNatClampNeg x1)) - (1 : Int32))), .long (0 : Int64), .long (Int32.toInt64 x2)] rfl (fun _ => rfl) rfl ?_
      refine dg_s (pc' := 43) [.int (d_X10_in (Int32.toInt64 x2) (0 : Int64) (Int32.toInt64 ((m.1 (x0 + 36) (Int32.toNatClampNeg x1)) - (1 : Int32))) m)] rfl (fun _ => rfl) rfl ?_
      refine dw_if (fun t => Φ t) (¬ (Int32.toInt (d_X10_in (Int32.toInt64 x2) (0 : Int64) (Int32.toInt64 ((m.1 (x0 + 36) (Int32.toNatClampNeg x1)) - (1 : Int32))) m)) = 0) [] 49 46 rfl (fun _ => rfl) (fun c2 => ?_) (fun c2 => ?_)
      · refine dw_g rfl ?_
        refine dg_s (pc' := 50) [.ref x0] rfl (fun _ => rfl) rfl ?_
        refine dg_s (pc' := 53) [.ref (x0 + 37)] rfl (fun _ => rfl) rfl ?_
        refine dg_s (pc' := 55) [.int (64 : Int32), .ref (x0 + 37)] rfl (fun _ => rfl) rfl ?_
        refine dg_s (pc' := 56) [.int x1, .int (64 : Int32), .ref (x0 + 37)] rfl (fun _ => rfl) rfl ?_
        refine dg_s (pc' := 57) [.int ((64 : Int32) * x1), .ref (x0 + 37)] rfl (fun _ => rfl) rfl ?_
        refine dg_s (pc' := 58) [.int x2, .int ((64 : Int32) * x1), .ref (x0 + 37)] rfl (fun _ => rfl) rfl ?_
        refine dg_s (pc' := 59) [.int (((64 : Int32) * x1) + x2), .ref (x0 + 37)] rfl (fun _ => rfl) rfl ?_
        refine dg_s (pc' := 60) [.ref x0, .int (((64 : Int32) * x1) + x2), .ref (x0 + 37)] rfl (fun _ => rfl) rfl ?_
        refine dg_s (pc' := 63) [.ref (x0 + 35), .int (((64 : Int32) * x1) + x2), .ref (x0 + 37)] rfl (fun _ => rfl) rfl ?_
        refine dg_s (pc' := 64) [.int x1, .ref (x0 + 35), .int (((64 : Int32) * x1) + x2), .ref (x0 + 37)] rfl (fun _ => rfl) rfl ?_
        refine dg_s (pc' := 65) [.int (m.1 (x0 + 35) (Int32.toNatClampNeg x1)), .int (((64 : Int32) * x1) + x2), .ref (x0 + 37)] rfl (fun _ => rfl) rfl ?_
        refine dw_if (fun t => Φ t) (¬ (Int32.toInt (m.1 (x0 + 35) (Int32.toNatClampNeg x1))) = 0) [.int (((64 : Int32) * x1) + x2), .ref (x0 + 37)] 78 68 rfl (fun _ => rfl) (fun c3 => ?_) (fun c3 => ?_)
        · refine dw_g rfl ?_
          refine dg_s (pc' := 79) [.ref x0, .int (((64 : Int32) * x1) + x2), .ref (x0 + 37)] rfl (fun _ => rfl) rfl ?_
          refine dg_s (pc' := 82) [.ref (x0 + 35), .int (((64 : Int32) * x1) + x2), .ref (x0 + 37)] rfl (fun _ => rfl) rfl ?_
          refine dg_s (pc' := 83) [.int x1, .ref (x0 + 35), .int (((64 : Int32) * x1) + x2), .ref (x0 + 37)] rfl (fun _ => rfl) rfl ?_
          refine dg_s (pc' := 84) [.int (m.1 (x0 + 35) (Int32.toNatClampNeg x1)), .int (((64 : Int32) * x1) + x2), .ref (x0 + 37)] rfl (fun _ => rfl) rfl ?_
          refine dg_s (pc' := 85) [.int (1 : Int32), .int (m.1 (x0 + 35) (Int32.toNatClampNeg x1)), .int (((64 : Int32) * x1) + x2), .ref (x0 + 37)] rfl (fun _ => rfl) rfl ?_
          refine dw_if (fun t => Φ t) (¬ (Int32.toInt (m.1 (x0 + 35) (Int32.toNatClampNeg x1))) = 1) [.int (((64 : Int32) * x1) + x2), .ref (x0 + 37)] 98 88 rfl (fun _ => rfl) (fun c4 => ?_) (fun c4 => ?_)
          · refine dw_g rfl ?_
            refine dg_s (pc' := 99) [.int x3, .int (((64 : Int32) * x1) + x2), .ref (x0 + 37)] rfl (fun _ => rfl) rfl ?_
            refine dg_m (pc' := 100) (dc_wi m (x0 + 37) (Int32.toNatClampNeg (((64 : Int32) * x1) + x2)) x3) [] rfl (fun _ => rfl) rfl ?_
            refine dg_s (pc' := 101) [.int (1 : Int32)] rfl (fun _ => rfl) rfl ?_
            exact dw_r (some (.inl (some (.int (1 : Int32)), (dc_wi m (x0 + 37) (Int32.toNatClampNeg (((64 : Int32) * x1) + x2)) x3)))) rfl (fun _ => rfl) (kR _ _)
          · refine dw_g rfl ?_
            refine dg_s (pc' := 89) [.int x3, .int (((64 : Int32) * x1) + x2), .ref (x0 + 37)] rfl (fun _ => rfl) rfl ?_
            refine dg_s (pc' := 91) [.int (16 : Int32), .int x3, .int (((64 : Int32) * x1) + x2), .ref (x0 + 37)] rfl (fun _ => rfl) rfl ?_
            refine dg_s (pc' := 92) [.int (x3 <<< ((16 : Int32) &&& 31)), .int (((64 : Int32) * x1) + x2), .ref (x0 + 37)] rfl (fun _ => rfl) rfl ?_
            refine dg_s (pc' := 94) [.int (16 : Int32), .int (x3 <<< ((16 : Int32) &&& 31)), .int (((64 : Int32) * x1) + x2), .ref (x0 + 37)] rfl (fun _ => rfl) rfl ?_
            refine dg_s (pc' := 95) [.int ((x3 <<< ((16 : Int32) &&& 31)) >>> ((16 : Int32) &&& 31)), .int (((64 : Int32) * x1) + x2), .ref (x0 + 37)] rfl (fun _ => rfl) rfl ?_
            refine dg_s (pc' := 99) [.int ((x3 <<< ((16 : Int32) &&& 31)) >>> ((16 : Int32) &&& 31)), .int (((64 : Int32) * x1) + x2), .ref (x0 + 37)] rfl (fun _ => rfl) rfl ?_
            refine dg_m (pc' := 100) (dc_wi m (x0 + 37) (Int32.toNatClampNeg (((64 : Int32) * x1) + x2)) ((x3 <<< ((16 : Int32) &&& 31)) >>> ((16 : Int32) &&& 31))) [] rfl (fun _ => rfl) rfl ?_
            refine dg_s (pc' := 101) [.int (1 : Int32)] rfl (fun _ => rfl) rfl ?_
            exact dw_r (some (.inl (some (.int (1 : Int32)), (dc_wi m (x0 + 37) (Int32.toNatClampNeg (((64 : Int32) * x1) + x2)) ((x3 <<< ((16 : Int32) &&& 31)) >>> ((16 : Int32) &&& 31)))))) rfl (fun _ => rfl) (kR _ _)
        · refine dw_g rfl ?_
          refine dg_s (pc' := 69) [.int x3, .int (((64 : Int32) * x1) + x2), .ref (x0 + 37)] rfl (fun _ => rfl) rfl ?_
          refine dg_s (pc' := 71) [.int (24 : Int32), .int x3, .int (((64 : Int32) * x1) + x2), .ref (x0 + 37)] rfl (fun _ => rfl) rfl ?_
          refine dg_s (pc' := 72) [.int (x3 <<< ((24 : Int32) &&& 31)), .int (((64 : Int32) * x1) + x2), .ref (x0 + 37)] rfl (fun _ => rfl) rfl ?_
          refine dg_s (pc' := 74) [.int (24 : Int32), .int (x3 <<< ((24 : Int32) &&& 31)), .int (((64 : Int32) * x1) + x2), .ref (x0 + 37)] rfl (fun _ => rfl) rfl ?_
          refine dg_s (pc' := 75) [.int ((x3 <<< ((24 : Int32) &&& 31)) >>> ((24 : Int32) &&& 31)), .int (((64 : Int32) * x1) + x2), .ref (x0 + 37)] rfl (fun _ => rfl) rfl ?_
          refine dg_s (pc' := 99) [.int ((x3 <<< ((24 : Int32) &&& 31)) >>> ((24 : Int32) &&& 31)), .int (((64 : Int32) * x1) + x2), .ref (x0 + 37)] rfl (fun _ => rfl) rfl ?_
          refine dg_m (pc' := 100) (dc_wi m (x0 + 37) (Int32.toNatClampNeg (((64 : Int32) * x1) + x2)) ((x3 <<< ((24 : Int32) &&& 31)) >>> ((24 : Int32) &&& 31))) [] rfl (fun _ => rfl) rfl ?_
          refine dg_s (pc' := 101) [.int (1 : Int32)] rfl (fun _ => rfl) rfl ?_
          exact dw_r (some (.inl (some (.int (1 : Int32)), (dc_wi m (x0 + 37) (Int32.toNatClampNeg (((64 : Int32) * x1) + x2)) ((x3 <<< ((24 : Int32) &&& 31)) >>> ((24 : Int32) &&& 31)))))) rfl (fun _ => rfl) (kR _ _)
      · refine dw_g rfl ?_
        refine dg_s (pc' := 48) [.int (-12 : Int32)] rfl (fun _ => rfl) rfl ?_
        exact dw_r (some (.inl (some (.int (-12 : Int32)), m))) rfl (fun _ => rfl) (kR _ _)
    · refine dw_g rfl ?_
      refine dg_s (pc' := 27) [.int (-11 : Int32)] rfl (fun _ => rfl) rfl ?_
      exact dw_r (some (.inl (some (.int (-11 : Int32)), m))) rfl (fun _ => rfl) (kR _ _)
  · refine dw_g rfl ?_
    refine dg_s (pc' := 13) [.int (-1 : Int32)] rfl (fun _ => rfl) rfl ?_
    exact dw_r (some (.inl (some (.int (-1 : Int32)), m))) rfl (fun _ => rfl) (kR _ _)
def H_X10_lay : dc_H := fun As m k => match As with
  | [.ref x0, .int x1, .int x2, .int x3] => dc_let (d_X10_lay x0 x1 x2 x3 m) (fun q => k (some (.int q.1)) q.2)
  | _ => dc_kz
theorem H_X10_lay_ok {u : Nat} : dc_cok u 226 H_X10_lay := fun M' hG N As m k P hz hP => by
  obtain rfl : ab_M_X10_lay = M' := Option.some.inj hG
  unfold H_X10_lay at hP
  split at hP
  · rename_i x0 x1 x2 x3
    exact dc_pv.imp (k_X10_lay (Φ := fun (t : (Int32 × dc_M)) r m' => P (dc_let t (fun q => k (some (.int q.1)) q.2)) → P (k r m')) x0 x1 x2 x3 m (fun _ _ h => h) rfl rfl rfl rfl) (fun r m' h => h hP)
  · exact absurd hP hz
def C_X10_row : List (Nat × dc_H) := [(171, H_X10_after), (146, H_X10_in), (163, H_X10_isEvent), (169, H_X10_isReady), (170, H_X10_isUnsafe)]
theorem CO_X10_row {u : Nat} : dc_CO u C_X10_row := dc_CO_cons H_X10_after_ok (dc_CO_cons H_X10_in_ok (dc_CO_cons H_X10_isEvent_ok (dc_CO_cons H_X10_isReady_ok (dc_CO_cons H_X10_isUnsafe_ok (dc_CO_nil)))))
def S_X10_row : List (Nat × List Nat) := [(71, [0, 1, 3, 4, 5]), (118, [0, 1, 3, 4, 5, 6])]
noncomputable def d_X10_row_l118b (x0 : Nat) (x1 : Int32) (x3 : Int32) (x4 : Int32) (x5 : Int32) (x6 : Int32) (m : dc_M) : Option ((Int32 × Int32) ⊕ Int32) :=
  (if (Int32.toInt x4) ≤ (Int32.toInt x6) then some (Sum.inr ((-4 : Int32))) else (if (Int32.toInt (d_X10_isEvent x0 (m.1 (x0 + 37) (Int32.toNatClampNeg ((((64 : Int32) * x1) + x3) + x6))) m)) = 0 then some (Sum.inr (x6)) else (if (Int32.toInt (d_X10_isReady x0 (m.1 (x0 + 37) (Int32.toNatClampNeg ((((64 : Int32) * x1) + x3) + x6))) x5 m)) = 0 then some (Sum.inr (x6)) else (if (Int32.toInt (d_X10_isUnsafe x0 (m.1 (x0 + 37) (Int32.toNatClampNeg ((((64 : Int32) * x1) + x3) + x6))) x5 m)) = 0 then some (Sum.inl ((d_X10_after x0 (m.1 (x0 + 37) (Int32.toNatClampNeg ((((64 : Int32) * x1) + x3) + x6))) x5 m), (x6 + (1 : Int32)))) else some (Sum.inr (x6))))))
noncomputable def d_X10_row_l118s (x0 : Nat) (x1 : Int32) (x3 : Int32) (x4 : Int32) (m : dc_M) : (Int32 × Int32) → Option ((Int32 × Int32) ⊕ Int32) := fun s => d_X10_row_l118b x0 x1 x3 x4 s.1 s.2 m
noncomputable def d_X10_row_l118 (x0 : Nat) (x1 : Int32) (x3 : Int32) (x4 : Int32) (x5 : Int32) (x6 : Int32) (m : dc_M) : Option Int32 := dc_lp (d_X10_row_l118s x0 x1 x3 x4 m) (x5, x6)
set_option maxHeartbeats 8000000 in
theorem k_X10_row_l118 {u : Nat} {Φ : (Option Int32) → Option Value → dc_M → Prop} (x0 : Nat) (x1 : Int32) (x3 : Int32) (x4 : Int32) (m : dc_M) (kR : ∀ (v : Int32), Φ (some (v)) (some (.int v)) m) : ∀ (N : Nat), ∀ (x5 : Int32) (x6 : Int32) (lv : ab_L), ab_lk lv 0 = some (.ref x0) → ab_lk lv 1 = some (.int x1) → ab_lk lv 3 = some (.int x3) → ab_lk lv 4 = some (.int x4) → ab_lk lv 5 = some (.int x5) → ab_lk lv 6 = some (.int x6) → dc_pv u N ab_M_X10_row 118 lv [] m (Φ (d_X10_row_l118 x0 x1 x3 x4 x5 x6 m)) := by
  intro N
  induction N with
  | zero => intros; exact dc_pv_zero
  | succ N ih =>
    intro x5 x6 lv f0 f1 f3 f4 f5 f6
    refine dc_ok (C := C_X10_row) (S := S_X10_row) CO_X10_row 400 118 [(0, .ref x0), (1, .int x1), (3, .int x3), (4, .int x4), (5, .int x5), (6, .int x6)] lv [] m (dc_sub_cons f0 (dc_sub_cons f1 (dc_sub_cons f3 (dc_sub_cons f4 (dc_sub_cons f5 (dc_sub_cons f6 (dc_sub_nil))))))) ?_
    unfold d_X10_row_l118
    rw [dc_lp_eq]
    show (fun t x => dc_lf u N ab_M_X10_row (Φ (Option.bind t (dc_bk (d_X10_row_l118s x0 x1 x3 x4 m)))) x) (d_X10_row_l118b x0 x1 x3 x4 x5 x6 m) _
    dsimp only
    unfold d_X10_row_l118b
    refine dg_s (pc' := 120) [.int x6] rfl (fun _ => rfl) rfl ?_
    refine dg_s (pc' := 122) [.int x4, .int x6] rfl (fun _ => rfl) rfl ?_
    refine dw_if (fun t => Φ (Option.bind t (dc_bk (d_X10_row_l118s x0 x1 x3 x4 m)))) ((Int32.toInt x4) ≤ (Int32.toInt x6)) [] 191 125 rfl (fun _ => rfl) (fun c0 => ?_) (fun c0 => ?_)
    · refine dw_g rfl ?_
      refine dg_s (pc' := 193) [.int (-4 : Int32)] rfl (fun _ => rfl) rfl ?_
      exact dw_r (some (.inl (some (.int (-4 : Int32)), m))) rfl (fun _ => rfl) (kR _)
    · refine dw_g rfl ?_
      refine dg_s (pc' := 126) [.ref x0] rfl (fun _ => rfl) rfl ?_
      refine dg_s (pc' := 129) [.ref (x0 + 37)] rfl (fun _ => rfl) rfl ?_
      refine dg_s (pc' := 131) [.int (64 : Int32), .ref (x0 + 37)] rfl (fun _ => rfl) rfl ?_
      refine dg_s (pc' := 132) [.int x1, .int (64 : Int32), .ref (x0 + 37)] rfl (fun _ => rfl) rfl ?_
      refine dg_s (pc' := 133) [.int ((64 : Int32) * x1), .ref (x0 + 37)] rfl (fun _ => rfl) rfl ?_
      refine dg_s (pc' := 134) [.int x3, .int ((64 : Int32) * x1), .ref (x0 + 37)] rfl (fun _ => rfl) rfl ?_
      refine dg_s (pc' := 135) [.int (((64 : Int32) * x1) + x3), .ref (x0 + 37)] rfl (fun _ => rfl) rfl ?_
      refine dg_s (pc' := 137) [.int x6, .int (((64 : Int32) * x1) + x3), .ref (x0 + 37)] rfl (fun _ => rfl) rfl ?_
      refine dg_s (pc' := 138) [.int ((((64 : Int32) * x1) + x3) + x6), .ref (x0 + 37)] rfl (fun _ => rfl) rfl ?_
      refine dg_s (pc' := 139) [.int (m.1 (x0 + 37) (Int32.toNatClampNeg ((((64 : Int32) * x1) + x3) + x6)))] rfl (fun _ => rfl) rfl ?_
      refine dg_L (pc' := 141) [(7, .int (m.1 (x0 + 37) (Int32.toNatClampNeg ((((64 : Int32) * x1) + x3) + x6)))), (0, .ref x0), (1, .int x1), (3, .int x3), (4, .int x4), (5, .int x5), (6, .int x6)] [] rfl (fun _ => rfl) rfl ?_
      refine dg_s (pc' := 142) [.ref x0] rfl (fun _ => rfl) rfl ?_
      refine dg_s (pc' := 144) [.int (m.1 (x0 + 37) (Int32.toNatClampNeg ((((64 : Int32) * x1) + x3) + x6))), .ref x0] rfl (fun _ => rfl) rfl ?_
      refine dg_s (pc' := 147) [.int (d_X10_isEvent x0 (m.1 (x0 + 37) (Int32.toNatClampNeg ((((64 : Int32) * x1) + x3) + x6))) m)] rfl (fun _ => rfl) rfl ?_
      refine dw_if (fun t => Φ (Option.bind t (dc_bk (d_X10_row_l118s x0 x1 x3 x4 m)))) ((Int32.toInt (d_X10_isEvent x0 (m.1 (x0 + 37) (Int32.toNatClampNeg ((((64 : Int32) * x1) + x3) + x6))) m)) = 0) [] 172 150 rfl (fun _ => rfl) (fun c1 => ?_) (fun c1 => ?_)
      · refine dw_g rfl ?_
        refine dg_s (pc' := 174) [.int x6] rfl (fun _ => rfl) rfl ?_
        exact dw_r (some (.inl (some (.int x6), m))) rfl (fun _ => rfl) (kR _)
      · refine dw_g rfl ?_
        refine dg_s (pc' := 151) [.ref x0] rfl (fun _ => rfl) rfl ?_
        refine dg_s (pc' := 153) [.int (m.1 (x0 + 37) (Int32.toNatClampNeg ((((64 : Int32) * x1) + x3) + x6))), .ref x0] rfl (fun _ => rfl) rfl ?_
        refine dg_s (pc' := 155) [.int x5, .int (m.1 (x0 + 37) (Int32.toNatClampNeg ((((64 : Int32) * x1) + x3) + x6))), .ref x0] rfl (fun _ => rfl) rfl ?_
        refine dg_s (pc' := 158) [.int (d_X10_isReady x0 (m.1 (x0 + 37) (Int32.toNatClampNeg ((((64 : Int32) * x1) + x3) + x6))) x5 m)] rfl (fun _ => rfl) rfl ?_
        refine dw_if (fun t => Φ (Option.bind t (dc_bk (d_X10_row_l118s x0 x1 x3 x4 m)))) ((Int32.toInt (d_X10_isReady x0 (m.1 (x0 + 37) (Int32.toNatClampNeg ((((64 : Int32) * x1) + x3) + x6))) x5 m)) = 0) [] 172 161 rfl (fun _ => rfl) (fun c2 => ?_) (fun c2 => ?_)
        · refine dw_g rfl ?_
          refine dg_s (pc' := 174) [.int x6] rfl (fun _ => rfl) rfl ?_
          exact dw_r (some (.inl (some (.int x6), m))) rfl (fun _ => rfl) (kR _)
        · refine dw_g rfl ?_
          refine dg_s (pc' := 162) [.ref x0] rfl (fun _ => rfl) rfl ?_
          refine dg_s (pc' := 164) [.int (m.1 (x0 + 37) (Int32.toNatClampNeg ((((64 : Int32) * x1) + x3) + x6))), .ref x0] rfl (fun _ => rfl) rfl ?_
          refine dg_s (pc' := 166) [.int x5, .int (m.1 (x0 + 37) (Int32.toNatClampNeg ((((64 : Int32) * x1) + x3) + x6))), .ref x0] rfl (fun _ => rfl) rfl ?_
          refine dg_s (pc' := 169) [.int (d_X10_isUnsafe x0 (m.1 (x0 + 37) (Int32.toNatClampNeg ((((64 : Int32) * x1) + x3) + x6))) x5 m)] rfl (fun _ => rfl) rfl ?_
          refine dw_if (fun t => Φ (Option.bind t (dc_bk (d_X10_row_l118s x0 x1 x3 x4 m)))) ((Int32.toInt (d_X10_isUnsafe x0 (m.1 (x0 + 37) (Int32.toNatClampNeg ((((64 : Int32) * x1) + x3) + x6))) x5 m)) = 0) [] 175 172 rfl (fun _ => rfl) (fun c3 => ?_) (fun c3 => ?_)
          · refine dw_g rfl ?_
            refine dg_s (pc' := 176) [.ref x0] rfl (fun _ => rfl) rfl ?_
            refine dg_s (pc' := 178) [.int (m.1 (x0 + 37) (Int32.toNatClampNeg ((((64 : Int32) * x1) + x3) + x6))), .ref x0] rfl (fun _ => rfl) rfl ?_
            refine dg_s (pc' := 180) [.int x5, .int (m.1 (x0 + 37) (Int32.toNatClampNeg ((((64 : Int32) * x1) + x3) + x6))), .ref x0] rfl (fun _ => rfl) rfl ?_
            refine dg_s (pc' := 183) [.int (d_X10_after x0 (m.1 (x0 + 37) (Int32.toNatClampNeg ((((64 : Int32) * x1) + x3) + x6))) x5 m)] rfl (fun _ => rfl) rfl ?_
            refine dg_L (pc' := 185) [(5, .int (d_X10_after x0 (m.1 (x0 + 37) (Int32.toNatClampNeg ((((64 : Int32) * x1) + x3) + x6))) x5 m)), (7, .int (m.1 (x0 + 37) (Int32.toNatClampNeg ((((64 : Int32) * x1) + x3) + x6)))), (0, .ref x0), (1, .int x1), (3, .int x3), (4, .int x4), (6, .int x6)] [] rfl (fun _ => rfl) rfl ?_
            refine dg_L (pc' := 188) [(6, .int (x6 + (1 : Int32))), (5, .int (d_X10_after x0 (m.1 (x0 + 37) (Int32.toNatClampNeg ((((64 : Int32) * x1) + x3) + x6))) x5 m)), (7, .int (m.1 (x0 + 37) (Int32.toNatClampNeg ((((64 : Int32) * x1) + x3) + x6)))), (0, .ref x0), (1, .int x1), (3, .int x3), (4, .int x4)] [] rfl (fun _ => rfl) rfl ?_
            refine dw_s (pc' := 118) [] rfl (fun _ => rfl) ?_
            exact dw_j rfl (fun lv1 hv => ih (d_X10_after x0 (m.1 (x0 + 37) (Int32.toNatClampNeg ((((64 : Int32) * x1) + x3) + x6))) x5 m) (x6 + (1 : Int32)) lv1 (hv.1 _ rfl) (hv.2.1 _ rfl) (hv.2.2.1 _ rfl) (hv.2.2.2.1 _ rfl) (hv.2.2.2.2.1 _ rfl) (hv.2.2.2.2.2.1 _ rfl))
          · refine dw_g rfl ?_
            refine dg_s (pc' := 174) [.int x6] rfl (fun _ => rfl) rfl ?_
            exact dw_r (some (.inl (some (.int x6), m))) rfl (fun _ => rfl) (kR _)
noncomputable def d_X10_row_l71b (x0 : Nat) (x1 : Int32) (x3 : Int32) (x4 : Int32) (x5 : Int32) (m : dc_M) : Option (Int32 ⊕ Int32) :=
  (if (Int32.toInt x4) ≤ (Int32.toInt x5) then ((d_X10_row_l118 x0 x1 x3 x4 (m.1 x0 11) (0 : Int32) m).map (fun z => Sum.inr (z))) else (if ¬ (Int32.toInt (d_X10_in ((Int32.toInt64 x3) + (Int32.toInt64 x5)) (0 : Int64) (Int32.toInt64 ((m.1 (x0 + 36) (Int32.toNatClampNeg x1)) - (1 : Int32))) m)) = 0 then some (Sum.inl (x5 + (1 : Int32))) else some (Sum.inr ((-12 : Int32)))))
noncomputable def d_X10_row_l71s (x0 : Nat) (x1 : Int32) (x3 : Int32) (x4 : Int32) (m : dc_M) : Int32 → Option (Int32 ⊕ Int32) := fun s => d_X10_row_l71b x0 x1 x3 x4 s m
noncomputable def d_X10_row_l71 (x0 : Nat) (x1 : Int32) (x3 : Int32) (x4 : Int32) (x5 : Int32) (m : dc_M) : Option Int32 := dc_lp (d_X10_row_l71s x0 x1 x3 x4 m) x5
set_option maxHeartbeats 8000000 in
theorem k_X10_row_l71 {u : Nat} {Φ : (Option Int32) → Option Value → dc_M → Prop} (x0 : Nat) (x1 : Int32) (x3 : Int32) (x4 : Int32) (m : dc_M) (kR : ∀ (v : Int32), Φ (some (v)) (some (.int v)) m) : ∀ (N : Nat), ∀ (x5 : Int32) (lv : ab_L), ab_lk lv 0 = some (.ref x0) → ab_lk lv 1 = some (.int x1) → ab_lk lv 3 = some (.int x3) → ab_lk lv 4 = some (.int x4) → ab_lk lv 5 = some (.int x5) → dc_pv u N ab_M_X10_row 71 lv [] m (Φ (d_X10_row_l71 x0 x1 x3 x4 x5 m)) := by
  intro N
  induction N with
  | zero => intros; exact dc_pv_zero
  | succ N ih =>
    intro x5 lv f0 f1 f3 f4 f5
    refine dc_ok (C := C_X10_row) (S := S_X10_row) CO_X10_row 400 71 [(0, .ref x0), (1, .int x1), (3, .int x3), (4, .int x4), (5, .int x5)] lv [] m (dc_sub_cons f0 (dc_sub_cons f1 (dc_sub_cons f3 (dc_sub_cons f4 (dc_sub_cons f5 (dc_sub_nil)))))) ?_
    unfold d_X10_row_l71
    rw [dc_lp_eq]
    show (fun t x => dc_lf u N ab_M_X10_row (Φ (Option.bind t (dc_bk (d_X10_row_l71s x0 x1 x3 x4 m)))) x) (d_X10_row_l71b x0 x1 x3 x4 x5 m) _
    dsimp only
    unfold d_X10_row_l71b
    refine dg_s (pc' := 73) [.int x5] rfl (fun _ => rfl) rfl ?_
    refine dg_s (pc' := 75) [.int x4, .int x5] rfl (fun _ => rfl) rfl ?_
    refine dw_if (fun t => Φ (Option.bind t (dc_bk (d_X10_row_l71s x0 x1 x3 x4 m)))) ((Int32.toInt x4) ≤ (Int32.toInt x5)) [] 109 78 rfl (fun _ => rfl) (fun c0 => ?_) (fun c0 => ?_)
    · refine dw_g rfl ?_
      refine dg_s (pc' := 110) [.ref x0] rfl (fun _ => rfl) rfl ?_
      refine dg_s (pc' := 113) [.int (m.1 x0 11)] rfl (fun _ => rfl) rfl ?_
      refine dg_L (pc' := 115) [(5, .int (m.1 x0 11)), (0, .ref x0), (1, .int x1), (3, .int x3), (4, .int x4)] [] rfl (fun _ => rfl) rfl ?_
      refine dg_s (pc' := 116) [.int (0 : Int32)] rfl (fun _ => rfl) rfl ?_
      refine dw_L (pc' := 118) [(6, .int (0 : Int32)), (5, .int (m.1 x0 11)), (0, .ref x0), (1, .int x1), (3, .int x3), (4, .int x4)] [] rfl (fun _ => rfl) ?_
      exact dw_j rfl (fun lv1 hv => k_X10_row_l118 (Φ := (fun t => Φ (Option.bind (t.map (fun z => Sum.inr (z))) (dc_bk (d_X10_row_l71s x0 x1 x3 x4 m))))) x0 x1 x3 x4 m (fun _a  => kR _a) N  (m.1 x0 11) (0 : Int32) lv1 (hv.1 _ rfl) (hv.2.1 _ rfl) (hv.2.2.1 _ rfl) (hv.2.2.2.1 _ rfl) (hv.2.2.2.2.1 _ rfl) (hv.2.2.2.2.2.1 _ rfl))
    · refine dw_g rfl ?_
      refine dg_s (pc' := 79) [.int x3] rfl (fun _ => rfl) rfl ?_
      refine dg_s (pc' := 80) [.long (Int32.toInt64 x3)] rfl (fun _ => rfl) rfl ?_
      refine dg_s (pc' := 82) [.int x5, .long (Int32.toInt64 x3)] rfl (fun _ => rfl) rfl ?_
      refine dg_s (pc' := 83) [.long (Int32.toInt64 x5), .long (Int32.toInt64 x3)] rfl (fun _ => rfl) rfl ?_
      refine dg_s (pc' := 84) [.long ((Int32.toInt64 x3) + (Int32.toInt64 x5))] rfl (fun _ => rfl) rfl ?_
      refine dg_s (pc' := 85) [.long (0 : Int64), .long ((Int32.toInt64 x3) + (Int32.toInt64 x5))] rfl (fun _ => rfl) rfl ?_
      refine dg_s (pc' := 86) [.ref x0, .long (0 : Int64), .long ((Int32.toInt64 x3) + (Int32.toInt64 x5))] rfl (fun _ => rfl) rfl ?_
      refine dg_s (pc' := 89) [.ref (x0 + 36), .long (0 : Int64), .long ((Int32.toInt64 x3) + (Int32.toInt64 x5))] rfl (fun _ => rfl) rfl ?_
      refine dg_s (pc' := 90) [.int x1, .ref (x0 + 36), .long (0 : Int64), .long ((Int32.toInt64 x3) + (Int32.toInt64 x5))] rfl (fun _ => rfl) rfl ?_
      refine dg_s (pc' := 91) [.int (m.1 (x0 + 36) (Int32.toNatClampNeg x1)), .long (0 : Int64), .long ((Int32.toInt64 x3) + (Int32.toInt64 x5))] rfl (fun _ => rfl) rfl ?_
      refine dg_s (pc' := 92) [.int (1 : Int32), .int (m.1 (x0 + 36) (Int32.toNatClampNeg x1)), .long (0 : Int64), .long ((Int32.toInt64 x3) + (Int32.toInt64 x5))] rfl (fun _ => rfl) rfl ?_
      refine dg_s (pc' := 93) [.int ((m.1 (x0 + 36) (Int32.toNatClampNeg x1)) - (1 : Int32)), .long (0 : Int64), .long ((Int32.toInt64 x3) + (Int32.toInt64 x5))] rfl (fun _ => rfl) rfl ?_
      refine dg_s (pc' := 94) [.long (Int32.toInt64 ((m.1 (x0 + 36) (Int32.toNatClampNeg x1)) - (1 : Int32))), .long (0 : Int64), .long ((Int32.toInt64 x3) + (Int32.toInt64 x5))] rfl (fun _ => rfl) rfl ?_
      refine dg_s (pc' := 97) [.int (d_X10_in ((Int32.toInt64 x3) + (Int32.toInt64 x5)) (0 : Int64) (Int32.toInt64 ((m.1 (x0 + 36) (Int32.toNatClampNeg x1)) - (1 : Int32))) m)] rfl (fun _ => rfl) rfl ?_
      refine dw_if (fun t => Φ (Option.bind t (dc_bk (d_X10_row_l71s x0 x1 x3 x4 m)))) (¬ (Int32.toInt (d_X10_in ((Int32.toInt64 x3) + (Int32.toInt64 x5)) (0 : Int64) (Int32.toInt64 ((m.1 (x0 + 36) (Int32.toNatClampNeg x1)) - (1 : Int32))) m)) = 0) [] 103 100 rfl (fun _ => rfl) (fun c1 => ?_) (fun c1 => ?_)
      · refine dw_g rfl ?_
        refine dg_L (pc' := 106) [(5, .int (x5 + (1 : Int32))), (0, .ref x0), (1, .int x1), (3, .int x3), (4, .int x4)] [] rfl (fun _ => rfl) rfl ?_
        refine dw_s (pc' := 71) [] rfl (fun _ => rfl) ?_
        exact dw_j rfl (fun lv1 hv => ih (x5 + (1 : Int32)) lv1 (hv.1 _ rfl) (hv.2.1 _ rfl) (hv.2.2.1 _ rfl) (hv.2.2.2.1 _ rfl) (hv.2.2.2.2.1 _ rfl))
      · refine dw_g rfl ?_
        refine dg_s (pc' := 102) [.int (-12 : Int32)] rfl (fun _ => rfl) rfl ?_
        exact dw_r (some (.inl (some (.int (-12 : Int32)), m))) rfl (fun _ => rfl) (kR _)
noncomputable def d_X10_row (x0 : Nat) (x1 : Int32) (x2 : Int32) (x3 : Int32) (x4 : Int32) (m : dc_M) : Option Int32 :=
  (if (Int32.toInt (d_X10_in (Int32.toInt64 x1) (0 : Int64) (3 : Int64) m)) = 0 then some ((-1 : Int32)) else (if (Int32.toInt (d_X10_in (Int32.toInt64 x2) (0 : Int64) (2 : Int64) m)) = 0 then some ((-1 : Int32)) else (if ¬ (Int32.toInt (d_X10_in (Int32.toInt64 x4) (0 : Int64) (64 : Int64) m)) = 0 then (if (Int32.toInt (m.1 (x0 + 35) (Int32.toNatClampNeg x1))) = (Int32.toInt x2) then (d_X10_row_l71 x0 x1 x3 x4 (0 : Int32) m) else (if ¬ (Int32.toInt (m.1 (x0 + 35) (Int32.toNatClampNeg x1))) = (-4) then some ((-13 : Int32)) else some ((-11 : Int32)))) else some ((-1 : Int32)))))
set_option maxHeartbeats 8000000 in
theorem k_X10_row {u : Nat} {N : Nat} {Φ : (Option Int32) → Option Value → dc_M → Prop} (x0 : Nat) (x1 : Int32) (x2 : Int32) (x3 : Int32) (x4 : Int32) (m : dc_M) (kR : ∀ (v : Int32), Φ (some (v)) (some (.int v)) m)  {lv : ab_L} (f0 : ab_lk lv 0 = some (.ref x0)) (f1 : ab_lk lv 1 = some (.int x1)) (f2 : ab_lk lv 2 = some (.int x2)) (f3 : ab_lk lv 3 = some (.int x3)) (f4 : ab_lk lv 4 = some (.int x4)) : dc_pv u N ab_M_X10_row 0 lv [] m (Φ (d_X10_row x0 x1 x2 x3 x4 m)) := by
  refine dc_pv.mono (dc_ok (C := C_X10_row) (S := S_X10_row) CO_X10_row 400 0 [(0, .ref x0), (1, .int x1), (2, .int x2), (3, .int x3), (4, .int x4)] lv [] m (dc_sub_cons f0 (dc_sub_cons f1 (dc_sub_cons f2 (dc_sub_cons f3 (dc_sub_cons f4 (dc_sub_nil)))))) ?_) (Nat.le_succ N)
  unfold d_X10_row
  refine dg_s (pc' := 1) [.int x1] rfl (fun _ => rfl) rfl ?_
  refine dg_s (pc' := 2) [.long (Int32.toInt64 x1)] rfl (fun _ => rfl) rfl ?_
  refine dg_s (pc' := 3) [.long (0 : Int64), .long (Int32.toInt64 x1)] rfl (fun _ => rfl) rfl ?_
  refine dg_s (pc' := 6) [.long (3 : Int64), .long (0 : Int64), .long (Int32.toInt64 x1)] rfl (fun _ => rfl) rfl ?_
  refine dg_s (pc' := 9) [.int (d_X10_in (Int32.toInt64 x1) (0 : Int64) (3 : Int64) m)] rfl (fun _ => rfl) rfl ?_
  refine dw_if (fun t => Φ t) ((Int32.toInt (d_X10_in (Int32.toInt64 x1) (0 : Int64) (3 : Int64) m)) = 0) [] 37 12 rfl (fun _ => rfl) (fun c0 => ?_) (fun c0 => ?_)
  · refine dw_g rfl ?_
    refine dg_s (pc' := 38) [.int (-1 : Int32)] rfl (fun _ => rfl) rfl ?_
    exact dw_r (some (.inl (some (.int (-1 : Int32)), m))) rfl (fun _ => rfl) (kR _)
  · refine dw_g rfl ?_
    refine dg_s (pc' := 13) [.int x2] rfl (fun _ => rfl) rfl ?_
    refine dg_s (pc' := 14) [.long (Int32.toInt64 x2)] rfl (fun _ => rfl) rfl ?_
    refine dg_s (pc' := 15) [.long (0 : Int64), .long (Int32.toInt64 x2)] rfl (fun _ => rfl) rfl ?_
    refine dg_s (pc' := 18) [.long (2 : Int64), .long (0 : Int64), .long (Int32.toInt64 x2)] rfl (fun _ => rfl) rfl ?_
    refine dg_s (pc' := 21) [.int (d_X10_in (Int32.toInt64 x2) (0 : Int64) (2 : Int64) m)] rfl (fun _ => rfl) rfl ?_
    refine dw_if (fun t => Φ t) ((Int32.toInt (d_X10_in (Int32.toInt64 x2) (0 : Int64) (2 : Int64) m)) = 0) [] 37 24 rfl (fun _ => rfl) (fun c1 => ?_) (fun c1 => ?_)
    · refine dw_g rfl ?_
      refine dg_s (pc' := 38) [.int (-1 : Int32)] rfl (fun _ => rfl) rfl ?_
      exact dw_r (some (.inl (some (.int (-1 : Int32)), m))) rfl (fun _ => rfl) (kR _)
    · refine dw_g rfl ?_
      refine dg_s (pc' := 26) [.int x4] rfl (fun _ => rfl) rfl ?_
      refine dg_s (pc' := 27) [.long (Int32.toInt64 x4)] rfl (fun _ => rfl) rfl ?_
      refine dg_s (pc' := 28) [.long (0 : Int64), .long (Int32.toInt64 x4)] rfl (fun _ => rfl) rfl ?_
      refine dg_s (pc' := 31) [.long (64 : Int64), .long (0 : Int64), .long (Int32.toInt64 x4)] rfl (fun _ => rfl) rfl ?_
      refine dg_s (pc' := 34) [.int (d_X10_in (Int32.toInt64 x4) (0 : Int64) (64 : Int64) m)] rfl (fun _ => rfl) rfl ?_
      refine dw_if (fun t => Φ t) (¬ (Int32.toInt (d_X10_in (Int32.toInt64 x4) (0 : Int64) (64 : Int64) m)) = 0) [] 39 37 rfl (fun _ => rfl) (fun c2 => ?_) (fun c2 => ?_)
      · refine dw_g rfl ?_
        refine dg_s (pc' := 40) [.ref x0] rfl (fun _ => rfl) rfl ?_
        refine dg_s (pc' := 43) [.ref (x0 + 35)] rfl (fun _ => rfl) rfl ?_
        refine dg_s (pc' := 44) [.int x1, .ref (x0 + 35)] rfl (fun _ => rfl) rfl ?_
        refine dg_s (pc' := 45) [.int (m.1 (x0 + 35) (Int32.toNatClampNeg x1))] rfl (fun _ => rfl) rfl ?_
        refine dg_s (pc' := 46) [.int x2, .int (m.1 (x0 + 35) (Int32.toNatClampNeg x1))] rfl (fun _ => rfl) rfl ?_
        refine dw_if (fun t => Φ t) ((Int32.toInt (m.1 (x0 + 35) (Int32.toNatClampNeg x1))) = (Int32.toInt x2)) [] 68 49 rfl (fun _ => rfl) (fun c3 => ?_) (fun c3 => ?_)
        · refine dw_g rfl ?_
          refine dg_s (pc' := 69) [.int (0 : Int32)] rfl (fun _ => rfl) rfl ?_
          refine dw_L (pc' := 71) [(5, .int (0 : Int32)), (0, .ref x0), (1, .int x1), (2, .int x2), (3, .int x3), (4, .int x4)] [] rfl (fun _ => rfl) ?_
          exact dw_j rfl (fun lv1 hv => k_X10_row_l71 (Φ := (fun t => Φ t)) x0 x1 x3 x4 m (fun _a  => kR _a) N  (0 : Int32) lv1 (hv.1 _ rfl) (hv.2.1 _ rfl) (hv.2.2.1 _ rfl) (hv.2.2.2.1 _ rfl) (hv.2.2.2.2.1 _ rfl))
        · refine dw_g rfl ?_
          refine dg_s (pc' := 50) [.ref x0] rfl (fun _ => rfl) rfl ?_
          refine dg_s (pc' := 53) [.ref (x0 + 35)] rfl (fun _ => rfl) rfl ?_
          refine dg_s (pc' := 54) [.int x1, .ref (x0 + 35)] rfl (fun _ => rfl) rfl ?_
          refine dg_s (pc' := 55) [.int (m.1 (x0 + 35) (Int32.toNatClampNeg x1))] rfl (fun _ => rfl) rfl ?_
          refine dg_s (pc' := 57) [.int (-4 : Int32), .int (m.1 (x0 + 35) (Int32.toNatClampNeg x1))] rfl (fun _ => rfl) rfl ?_
          refine dw_if (fun t => Φ t) (¬ (Int32.toInt (m.1 (x0 + 35) (Int32.toNatClampNeg x1))) = (-4)) [] 65 60 rfl (fun _ => rfl) (fun c4 => ?_) (fun c4 => ?_)
          · refine dw_g rfl ?_
            refine dg_s (pc' := 67) [.int (-13 : Int32)] rfl (fun _ => rfl) rfl ?_
            exact dw_r (some (.inl (some (.int (-13 : Int32)), m))) rfl (fun _ => rfl) (kR _)
          · refine dw_g rfl ?_
            refine dg_s (pc' := 62) [.int (-11 : Int32)] rfl (fun _ => rfl) rfl ?_
            refine dg_s (pc' := 67) [.int (-11 : Int32)] rfl (fun _ => rfl) rfl ?_
            exact dw_r (some (.inl (some (.int (-11 : Int32)), m))) rfl (fun _ => rfl) (kR _)
      · refine dw_g rfl ?_
        refine dg_s (pc' := 38) [.int (-1 : Int32)] rfl (fun _ => rfl) rfl ?_
        exact dw_r (some (.inl (some (.int (-1 : Int32)), m))) rfl (fun _ => rfl) (kR _)
noncomputable def H_X10_row : dc_H := fun As m k => match As with
  | [.ref x0, .int x1, .int x2, .int x3, .int x4] => (d_X10_row x0 x1 x2 x3 x4 m).bind (fun q => k (some (.int q)) m)
  | _ => dc_kz
theorem H_X10_row_ok {u : Nat} : dc_cok u 227 H_X10_row := fun M' hG N As m k P hz hP => by
  obtain rfl : ab_M_X10_row = M' := Option.some.inj hG
  unfold H_X10_row at hP
  split at hP
  · rename_i x0 x1 x2 x3 x4
    exact dc_pv.imp (k_X10_row (Φ := fun (t : Option Int32) r m' => P (t.bind (fun q => k (some (.int q)) m)) → P (k r m')) x0 x1 x2 x3 x4 m (fun _  h => h) rfl rfl rfl rfl rfl) (fun r m' h => h hP)
  · exact absurd hP hz
