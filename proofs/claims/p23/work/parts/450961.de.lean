/-! ===== methods as functions (written by a program) ===== -/
noncomputable def C_X10_hasRing : List (Nat × dc_H) := [(214, H_X10_layWays)]
theorem CO_X10_hasRing {u : Nat} : dc_CO u C_X10_hasRing := dc_CO_cons H_X10_layWays_ok (dc_CO_nil)
def S_X10_hasRing : List (Nat × List Nat) := [(14, [0, 3, 4])]
noncomputable def d_X10_hasRing_l14b (x0 : Nat) (x3 : Int32) (x4 : Int32) (m : dc_M) : Option ((Int32 × Int32) ⊕ (Int32 × dc_M)) :=
  (if (Int32.toInt (m.1 x0 3)) ≤ (Int32.toInt x4) then some (Sum.inr ((x3, m))) else (if ¬ (Int32.toInt x3) = 0 then some (Sum.inl ((1 : Int32), (x4 + (1 : Int32)))) else (if (Int32.toInt (lg_cmp (m.2.1 (x0 + 28) (Int32.toNatClampNeg ((17 : Int32) * x4))) (0 : Int64))) < 0 then some (Sum.inl ((0 : Int32), (x4 + (1 : Int32)))) else some (Sum.inl ((1 : Int32), (x4 + (1 : Int32)))))))
noncomputable def d_X10_hasRing_l14s (x0 : Nat) (m : dc_M) : (Int32 × Int32) → Option ((Int32 × Int32) ⊕ (Int32 × dc_M)) := fun s => d_X10_hasRing_l14b x0 s.1 s.2 m
noncomputable def d_X10_hasRing_l14 (x0 : Nat) (x3 : Int32) (x4 : Int32) (m : dc_M) : Option (Int32 × dc_M) := dc_lp (d_X10_hasRing_l14s x0 m) (x3, x4)
set_option maxHeartbeats 8000000 in
theorem k_X10_hasRing_l14 {u : Nat} {Φ : (Option (Int32 × dc_M)) → Option Value → dc_M → Prop} (x0 : Nat) (m : dc_M) (kR : ∀ (v : Int32) (m : dc_M), Φ (some ((v, m))) (some (.int v)) m) : ∀ (N : Nat), ∀ (x3 : Int32) (x4 : Int32) (lv : ab_L), ab_lk lv 0 = some (.ref x0) → ab_lk lv 3 = some (.int x3) → ab_lk lv 4 = some (.int x4) → dc_pv u N ab_M_X10_hasRing 14 lv [] m (Φ (d_X10_hasRing_l14 x0 x3 x4 m)) := by
  intro N
  induction N with
  | zero => intros; exact dc_pv_zero
  | succ N ih =>
    intro x3 x4 lv f0 f3 f4
    refine dc_ok (C := C_X10_hasRing) (S := S_X10_hasRing) CO_X10_hasRing 400 14 [(0, .ref x0), (3, .int x3), (4, .int x4)] lv [] m (dc_sub_cons f0 (dc_sub_cons f3 (dc_sub_cons f4 (dc_sub_nil)))) ?_
    unfold d_X10_hasRing_l14
    rw [dc_lp_eq]
    show (fun t x => dc_lf u N ab_M_X10_hasRing (Φ (Option.bind t (dc_bk (d_X10_hasRing_l14s x0 m)))) x) (d_X10_hasRing_l14b x0 x3 x4 m) _
    dsimp only
    unfold d_X10_hasRing_l14b
    refine dg_s (pc' := 16) [.int x4] rfl (fun _ => rfl) rfl ?_
    refine dg_s (pc' := 17) [.ref x0, .int x4] rfl (fun _ => rfl) rfl ?_
    refine dg_s (pc' := 20) [.int (m.1 x0 3), .int x4] rfl (fun _ => rfl) rfl ?_
    refine dw_if (fun t => Φ (Option.bind t (dc_bk (d_X10_hasRing_l14s x0 m)))) ((Int32.toInt (m.1 x0 3)) ≤ (Int32.toInt x4)) [] 54 23 rfl (fun _ => rfl) (fun c0 => ?_) (fun c0 => ?_)
    · refine dw_g rfl ?_
      refine dg_s (pc' := 55) [.int x3] rfl (fun _ => rfl) rfl ?_
      exact dw_r (some (.inl (some (.int x3), m))) rfl (fun _ => rfl) (kR _ _)
    · refine dw_g rfl ?_
      refine dg_s (pc' := 24) [.int x3] rfl (fun _ => rfl) rfl ?_
      refine dw_if (fun t => Φ (Option.bind t (dc_bk (d_X10_hasRing_l14s x0 m)))) (¬ (Int32.toInt x3) = 0) [] 42 27 rfl (fun _ => rfl) (fun c1 => ?_) (fun c1 => ?_)
      · refine dw_g rfl ?_
        refine dg_s (pc' := 43) [.int (1 : Int32)] rfl (fun _ => rfl) rfl ?_
        refine dg_s (pc' := 47) [.int (1 : Int32)] rfl (fun _ => rfl) rfl ?_
        refine dg_L (pc' := 48) [(3, .int (1 : Int32)), (0, .ref x0), (4, .int x4)] [] rfl (fun _ => rfl) rfl ?_
        refine dg_L (pc' := 51) [(4, .int (x4 + (1 : Int32))), (3, .int (1 : Int32)), (0, .ref x0)] [] rfl (fun _ => rfl) rfl ?_
        refine dw_s (pc' := 14) [] rfl (fun _ => rfl) ?_
        exact dw_j rfl (fun lv1 hv => ih (1 : Int32) (x4 + (1 : Int32)) lv1 (hv.1 _ rfl) (hv.2.1 _ rfl) (hv.2.2.1 _ rfl))
      · refine dw_g rfl ?_
        refine dg_s (pc' := 28) [.ref x0] rfl (fun _ => rfl) rfl ?_
        refine dg_s (pc' := 31) [.ref (x0 + 28)] rfl (fun _ => rfl) rfl ?_
        refine dg_s (pc' := 33) [.int (17 : Int32), .ref (x0 + 28)] rfl (fun _ => rfl) rfl ?_
        refine dg_s (pc' := 35) [.int x4, .int (17 : Int32), .ref (x0 + 28)] rfl (fun _ => rfl) rfl ?_
        refine dg_s (pc' := 36) [.int ((17 : Int32) * x4), .ref (x0 + 28)] rfl (fun _ => rfl) rfl ?_
        refine dg_s (pc' := 37) [.long (m.2.1 (x0 + 28) (Int32.toNatClampNeg ((17 : Int32) * x4)))] rfl (fun _ => rfl) rfl ?_
        refine dg_s (pc' := 38) [.long (0 : Int64), .long (m.2.1 (x0 + 28) (Int32.toNatClampNeg ((17 : Int32) * x4)))] rfl (fun _ => rfl) rfl ?_
        refine dg_s (pc' := 39) [.int (lg_cmp (m.2.1 (x0 + 28) (Int32.toNatClampNeg ((17 : Int32) * x4))) (0 : Int64))] rfl (fun _ => rfl) rfl ?_
        refine dw_if (fun t => Φ (Option.bind t (dc_bk (d_X10_hasRing_l14s x0 m)))) ((Int32.toInt (lg_cmp (m.2.1 (x0 + 28) (Int32.toNatClampNeg ((17 : Int32) * x4))) (0 : Int64))) < 0) [] 46 42 rfl (fun _ => rfl) (fun c2 => ?_) (fun c2 => ?_)
        · refine dw_g rfl ?_
          refine dg_s (pc' := 47) [.int (0 : Int32)] rfl (fun _ => rfl) rfl ?_
          refine dg_L (pc' := 48) [(3, .int (0 : Int32)), (0, .ref x0), (4, .int x4)] [] rfl (fun _ => rfl) rfl ?_
          refine dg_L (pc' := 51) [(4, .int (x4 + (1 : Int32))), (3, .int (0 : Int32)), (0, .ref x0)] [] rfl (fun _ => rfl) rfl ?_
          refine dw_s (pc' := 14) [] rfl (fun _ => rfl) ?_
          exact dw_j rfl (fun lv1 hv => ih (0 : Int32) (x4 + (1 : Int32)) lv1 (hv.1 _ rfl) (hv.2.1 _ rfl) (hv.2.2.1 _ rfl))
        · refine dw_g rfl ?_
          refine dg_s (pc' := 43) [.int (1 : Int32)] rfl (fun _ => rfl) rfl ?_
          refine dg_s (pc' := 47) [.int (1 : Int32)] rfl (fun _ => rfl) rfl ?_
          refine dg_L (pc' := 48) [(3, .int (1 : Int32)), (0, .ref x0), (4, .int x4)] [] rfl (fun _ => rfl) rfl ?_
          refine dg_L (pc' := 51) [(4, .int (x4 + (1 : Int32))), (3, .int (1 : Int32)), (0, .ref x0)] [] rfl (fun _ => rfl) rfl ?_
          refine dw_s (pc' := 14) [] rfl (fun _ => rfl) ?_
          exact dw_j rfl (fun lv1 hv => ih (1 : Int32) (x4 + (1 : Int32)) lv1 (hv.1 _ rfl) (hv.2.1 _ rfl) (hv.2.2.1 _ rfl))
noncomputable def d_X10_hasRing (x0 : Nat) (x1 : Int32) (x2 : Int32) (m : dc_M) : Option (Int32 × dc_M) :=
  ((d_X10_layWays x0 (Int32.toInt64 x2) (Int32.toInt64 x1) (0 : Int32) m).bind (fun q1 => (d_X10_hasRing_l14 x0 (0 : Int32) (0 : Int32) q1)))
set_option maxHeartbeats 8000000 in
theorem k_X10_hasRing {u : Nat} {N : Nat} {Φ : (Option (Int32 × dc_M)) → Option Value → dc_M → Prop} (x0 : Nat) (x1 : Int32) (x2 : Int32) (m : dc_M) (kR : ∀ (v : Int32) (m : dc_M), Φ (some ((v, m))) (some (.int v)) m)  {lv : ab_L} (f0 : ab_lk lv 0 = some (.ref x0)) (f1 : ab_lk lv 1 = some (.int x1)) (f2 : ab_lk lv 2 = some (.int x2)) : dc_pv u N ab_M_X10_hasRing 0 lv [] m (Φ (d_X10_hasRing x0 x1 x2 m)) := by
  refine dc_pv.mono (dc_ok (C := C_X10_hasRing) (S := S_X10_hasRing) CO_X10_hasRing 400 0 [(0, .ref x0), (1, .int x1), (2, .int x2)] lv [] m (dc_sub_cons f0 (dc_sub_cons f1 (dc_sub_cons f2 (dc_sub_nil)))) ?_) (Nat.le_succ N)
  unfold d_X10_hasRing
  refine dg_s (pc' := 1) [.ref x0] rfl (fun _ => rfl) rfl ?_
  refine dg_s (pc' := 2) [.int x2, .ref x0] rfl (fun _ => rfl) rfl ?_
  refine dg_s (pc' := 3) [.long (Int32.toInt64 x2), .ref x0] rfl (fun _ => rfl) rfl ?_
  refine dg_s (pc' := 4) [.int x1, .long (Int32.toInt64 x2), .ref x0] rfl (fun _ => rfl) rfl ?_
  refine dg_s (pc' := 5) [.long (Int32.toInt64 x1), .long (Int32.toInt64 x2), .ref x0] rfl (fun _ => rfl) rfl ?_
  refine dg_s (pc' := 6) [.int (0 : Int32), .long (Int32.toInt64 x1), .long (Int32.toInt64 x2), .ref x0] rfl (fun _ => rfl) rfl ?_
  refine dw_b (fun t => Φ t) (pc' := 9) (fun q1 => []) (fun q1 => q1) rfl (fun _ => rfl) (fun q1 => ?_)
  refine dw_g rfl ?_
  refine dg_s (pc' := 10) [.int (0 : Int32)] rfl (fun _ => rfl) rfl ?_
  refine dg_L (pc' := 11) [(3, .int (0 : Int32)), (0, .ref x0), (1, .int x1), (2, .int x2)] [] rfl (fun _ => rfl) rfl ?_
  refine dg_s (pc' := 12) [.int (0 : Int32)] rfl (fun _ => rfl) rfl ?_
  refine dw_L (pc' := 14) [(4, .int (0 : Int32)), (3, .int (0 : Int32)), (0, .ref x0), (1, .int x1), (2, .int x2)] [] rfl (fun _ => rfl) ?_
  exact dw_j rfl (fun lv1 hv => k_X10_hasRing_l14 (Φ := (fun t => Φ t)) x0 q1 (fun _a _b => kR _a _b) N  (0 : Int32) (0 : Int32) lv1 (hv.1 _ rfl) (hv.2.1 _ rfl) (hv.2.2.1 _ rfl))
noncomputable def H_X10_hasRing : dc_H := fun As m k => match As with
  | [.ref x0, .int x1, .int x2] => (d_X10_hasRing x0 x1 x2 m).bind (fun q => k (some (.int q.1)) q.2)
  | _ => dc_kz
theorem H_X10_hasRing_ok {u : Nat} : dc_cok u 216 H_X10_hasRing := fun M' hG N As m k P hz hP => by
  obtain rfl : ab_M_X10_hasRing = M' := Option.some.inj hG
  unfold H_X10_hasRing at hP
  split at hP
  · rename_i x0 x1 x2
    exact dc_pv.imp (k_X10_hasRing (Φ := fun (t : Option (Int32 × dc_M)) r m' => P (t.bind (fun q => k (some (.int q.1)) q.2)) → P (k r m')) x0 x1 x2 m (fun _ _ h => h) rfl rfl rfl) (fun r m' h => h hP)
  · exact absurd hP hz
def C_X10_leastOf : List (Nat × dc_H) := []
theorem CO_X10_leastOf {u : Nat} : dc_CO u C_X10_leastOf := dc_CO_nil
def S_X10_leastOf : List (Nat × List Nat) := [(2, [0, 1])]
noncomputable def d_X10_leastOf_l2b (x0 : Int32) (x1 : Int32) (m : dc_M) : Option (Int32 ⊕ Int32) :=
  (if ¬ (Int32.toInt ((x0 >>> (x1 &&& 31)) &&& (1 : Int32))) = 0 then some (Sum.inr (x1)) else some (Sum.inl (x1 + (1 : Int32))))
noncomputable def d_X10_leastOf_l2s (x0 : Int32) (m : dc_M) : Int32 → Option (Int32 ⊕ Int32) := fun s => d_X10_leastOf_l2b x0 s m
noncomputable def d_X10_leastOf_l2 (x0 : Int32) (x1 : Int32) (m : dc_M) : Option Int32 := dc_lp (d_X10_leastOf_l2s x0 m) x1
set_option maxHeartbeats 8000000 in
theorem k_X10_leastOf_l2 {u : Nat} {Φ : (Option Int32) → Option Value → dc_M → Prop} (x0 : Int32) (m : dc_M) (kR : ∀ (v : Int32), Φ (some (v)) (some (.int v)) m) : ∀ (N : Nat), ∀ (x1 : Int32) (lv : ab_L), ab_lk lv 0 = some (.int x0) → ab_lk lv 1 = some (.int x1) → dc_pv u N ab_M_X10_leastOf 2 lv [] m (Φ (d_X10_leastOf_l2 x0 x1 m)) := by
  intro N
  induction N with
  | zero => intros; exact dc_pv_zero
  | succ N ih =>
    intro x1 lv f0 f1
    refine dc_ok (C := C_X10_leastOf) (S := S_X10_leastOf) CO_X10_leastOf 400 2 [(0, .int x0), (1, .int x1)] lv [] m (dc_sub_cons f0 (dc_sub_cons f1 (dc_sub_nil))) ?_
    unfold d_X10_leastOf_l2
    rw [dc_lp_eq]
    show (fun t x => dc_lf u N ab_M_X10_leastOf (Φ (Option.bind t (dc_bk (d_X10_leastOf_l2s x0 m)))) x) (d_X10_leastOf_l2b x0 x1 m) _
    dsimp only
    unfold d_X10_leastOf_l2b
    refine dg_s (pc' := 3) [.int x0] rfl (fun _ => rfl) rfl ?_
    refine dg_s (pc' := 4) [.int x1, .int x0] rfl (fun _ => rfl) rfl ?_
    refine dg_s (pc' := 5) [.int (x0 >>> (x1 &&& 31))] rfl (fun _ => rfl) rfl ?_
    refine dg_s (pc' := 6) [.int (1 : Int32), .int (x0 >>> (x1 &&& 31))] rfl (fun _ => rfl) rfl ?_
    refine dg_s (pc' := 7) [.int ((x0 >>> (x1 &&& 31)) &&& (1 : Int32))] rfl (fun _ => rfl) rfl ?_
    refine dw_if (fun t => Φ (Option.bind t (dc_bk (d_X10_leastOf_l2s x0 m)))) (¬ (Int32.toInt ((x0 >>> (x1 &&& 31)) &&& (1 : Int32))) = 0) [] 16 10 rfl (fun _ => rfl) (fun c0 => ?_) (fun c0 => ?_)
    · refine dw_g rfl ?_
      refine dg_s (pc' := 17) [.int x1] rfl (fun _ => rfl) rfl ?_
      exact dw_r (some (.inl (some (.int x1), m))) rfl (fun _ => rfl) (kR _)
    · refine dw_g rfl ?_
      refine dg_L (pc' := 13) [(1, .int (x1 + (1 : Int32))), (0, .int x0)] [] rfl (fun _ => rfl) rfl ?_
      refine dw_s (pc' := 2) [] rfl (fun _ => rfl) ?_
      exact dw_j rfl (fun lv1 hv => ih (x1 + (1 : Int32)) lv1 (hv.1 _ rfl) (hv.2.1 _ rfl))
noncomputable def d_X10_leastOf (x0 : Int32) (m : dc_M) : Option Int32 :=
  (d_X10_leastOf_l2 x0 (0 : Int32) m)
set_option maxHeartbeats 8000000 in
theorem k_X10_leastOf {u : Nat} {N : Nat} {Φ : (Option Int32) → Option Value → dc_M → Prop} (x0 : Int32) (m : dc_M) (kR : ∀ (v : Int32), Φ (some (v)) (some (.int v)) m)  {lv : ab_L} (f0 : ab_lk lv 0 = some (.int x0)) : dc_pv u N ab_M_X10_leastOf 0 lv [] m (Φ (d_X10_leastOf x0 m)) := by
  refine dc_pv.mono (dc_ok (C := C_X10_leastOf) (S := S_X10_leastOf) CO_X10_leastOf 400 0 [(0, .int x0)] lv [] m (dc_sub_cons f0 (dc_sub_nil)) ?_) (Nat.le_succ N)
  unfold d_X10_leastOf
  refine dg_s (pc' := 1) [.int (0 : Int32)] rfl (fun _ => rfl) rfl ?_
  refine dw_L (pc' := 2) [(1, .int (0 : Int32)), (0, .int x0)] [] rfl (fun _ => rfl) ?_
  exact dw_j rfl (fun lv1 hv => k_X10_leastOf_l2 (Φ := (fun t => Φ t)) x0 m (fun _a  => kR _a) N  (0 : Int32) lv1 (hv.1 _ rfl) (hv.2.1 _ rfl))
noncomputable def H_X10_leastOf : dc_H := fun As m k => match As with
  | [.int x0] => (d_X10_leastOf x0 m).bind (fun q => k (some (.int q)) m)
  | _ => dc_kz
theorem H_X10_leastOf_ok {u : Nat} : dc_cok u 213 H_X10_leastOf := fun M' hG N As m k P hz hP => by
  obtain rfl : ab_M_X10_leastOf = M' := Option.some.inj hG
  unfold H_X10_leastOf at hP
  split at hP
  · rename_i x0
    exact dc_pv.imp (k_X10_leastOf (Φ := fun (t : Option Int32) r m' => P (t.bind (fun q => k (some (.int q)) m)) → P (k r m')) x0 m (fun _  h => h) rfl) (fun r m' h => h hP)
  · exact absurd hP hz
noncomputable def C_X10_isGraph : List (Nat × dc_H) := [(166, H_X10_feeding), (214, H_X10_layWays), (213, H_X10_leastOf), (212, H_X10_sizeOf), (167, H_X10_taking)]
theorem CO_X10_isGraph {u : Nat} : dc_CO u C_X10_isGraph := dc_CO_cons H_X10_feeding_ok (dc_CO_cons H_X10_layWays_ok (dc_CO_cons H_X10_leastOf_ok (dc_CO_cons H_X10_sizeOf_ok (dc_CO_cons H_X10_taking_ok (dc_CO_nil)))))
def S_X10_isGraph : List (Nat × List Nat) := [(4, [0, 1, 2]), (52, [0, 1]), (60, [0, 1, 2]), (102, [0, 1]), (111, [0, 1, 2])]
noncomputable def d_X10_isGraph_l111b (x0 : Nat) (x1 : Int32) (x2 : Int32) (m : dc_M) : Option ((Int32 × Int32) ⊕ (Int32 × dc_M)) :=
  (if (Int32.toInt (m.1 x0 3)) ≤ (Int32.toInt x2) then some (Sum.inr ((x1, m))) else (if (Int32.toInt x1) = 0 then some (Sum.inl ((0 : Int32), (x2 + (1 : Int32)))) else (if 0 ≤ (Int32.toInt (lg_cmp (m.2.1 (x0 + 28) (Int32.toNatClampNeg ((17 : Int32) * x2))) (-500000000000 : Int64))) then some (Sum.inl ((0 : Int32), (x2 + (1 : Int32)))) else some (Sum.inl ((1 : Int32), (x2 + (1 : Int32)))))))
noncomputable def d_X10_isGraph_l111s (x0 : Nat) (m : dc_M) : (Int32 × Int32) → Option ((Int32 × Int32) ⊕ (Int32 × dc_M)) := fun s => d_X10_isGraph_l111b x0 s.1 s.2 m
noncomputable def d_X10_isGraph_l111 (x0 : Nat) (x1 : Int32) (x2 : Int32) (m : dc_M) : Option (Int32 × dc_M) := dc_lp (d_X10_isGraph_l111s x0 m) (x1, x2)
set_option maxHeartbeats 8000000 in
theorem k_X10_isGraph_l111 {u : Nat} {Φ : (Option (Int32 × dc_M)) → Option Value → dc_M → Prop} (x0 : Nat) (m : dc_M) (kR : ∀ (v : Int32) (m : dc_M), Φ (some ((v, m))) (some (.int v)) m) : ∀ (N : Nat), ∀ (x1 : Int32) (x2 : Int32) (lv : ab_L), ab_lk lv 0 = some (.ref x0) → ab_lk lv 1 = some (.int x1) → ab_lk lv 2 = some (.int x2) → dc_pv u N ab_M_X10_isGraph 111 lv [] m (Φ (d_X10_isGraph_l111 x0 x1 x2 m)) := by
  intro N
  induction N with
  | zero => intros; exact dc_pv_zero
  | succ N ih =>
    intro x1 x2 lv f0 f1 f2
    refine dc_ok (C := C_X10_isGraph) (S := S_X10_isGraph) CO_X10_isGraph 400 111 [(0, .ref x0), (1, .int x1), (2, .int x2)] lv [] m (dc_sub_cons f0 (dc_sub_cons f1 (dc_sub_cons f2 (dc_sub_nil)))) ?_
    unfold d_X10_isGraph_l111
    rw [dc_lp_eq]
    show (fun t x => dc_lf u N ab_M_X10_isGraph (Φ (Option.bind t (dc_bk (d_X10_isGraph_l111s x0 m)))) x) (d_X10_isGraph_l111b x0 x1 x2 m) _
    dsimp only
    unfold d_X10_isGraph_l111b
    refine dg_s (pc' := 112) [.int x2] rfl (fun _ => rfl) rfl ?_
    refine dg_s (pc' := 113) [.ref x0, .int x2] rfl (fun _ => rfl) rfl ?_
    refine dg_s (pc' := 116) [.int (m.1 x0 3), .int x2] rfl (fun _ => rfl) rfl ?_
    refine dw_if (fun t => Φ (Option.bind t (dc_bk (d_X10_isGraph_l111s x0 m)))) ((Int32.toInt (m.1 x0 3)) ≤ (Int32.toInt x2)) [] 151 119 rfl (fun _ => rfl) (fun c0 => ?_) (fun c0 => ?_)
    · refine dw_g rfl ?_
      refine dg_s (pc' := 152) [.int x1] rfl (fun _ => rfl) rfl ?_
      exact dw_r (some (.inl (some (.int x1), m))) rfl (fun _ => rfl) (kR _ _)
    · refine dw_g rfl ?_
      refine dg_s (pc' := 120) [.int x1] rfl (fun _ => rfl) rfl ?_
      refine dw_if (fun t => Φ (Option.bind t (dc_bk (d_X10_isGraph_l111s x0 m)))) ((Int32.toInt x1) = 0) [] 143 123 rfl (fun _ => rfl) (fun c1 => ?_) (fun c1 => ?_)
      · refine dw_g rfl ?_
        refine dg_s (pc' := 144) [.int (0 : Int32)] rfl (fun _ => rfl) rfl ?_
        refine dg_L (pc' := 145) [(1, .int (0 : Int32)), (0, .ref x0), (2, .int x2)] [] rfl (fun _ => rfl) rfl ?_
        refine dg_L (pc' := 148) [(2, .int (x2 + (1 : Int32))), (1, .int (0 : Int32)), (0, .ref x0)] [] rfl (fun _ => rfl) rfl ?_
        refine dw_s (pc' := 111) [] rfl (fun _ => rfl) ?_
        exact dw_j rfl (fun lv1 hv => ih (0 : Int32) (x2 + (1 : Int32)) lv1 (hv.1 _ rfl) (hv.2.1 _ rfl) (hv.2.2.1 _ rfl))
      · refine dw_g rfl ?_
        refine dg_s (pc' := 124) [.ref x0] rfl (fun _ => rfl) rfl ?_
        refine dg_s (pc' := 127) [.ref (x0 + 28)] rfl (fun _ => rfl) rfl ?_
        refine dg_s (pc' := 129) [.int (17 : Int32), .ref (x0 + 28)] rfl (fun _ => rfl) rfl ?_
        refine dg_s (pc' := 130) [.int x2, .int (17 : Int32), .ref (x0 + 28)] rfl (fun _ => rfl) rfl ?_
        refine dg_s (pc' := 131) [.int ((17 : Int32) * x2), .ref (x0 + 28)] rfl (fun _ => rfl) rfl ?_
        refine dg_s (pc' := 132) [.long (m.2.1 (x0 + 28) (Int32.toNatClampNeg ((17 : Int32) * x2)))] rfl (fun _ => rfl) rfl ?_
        refine dg_s (pc' := 135) [.long (-500000000000 : Int64), .long (m.2.1 (x0 + 28) (Int32.toNatClampNeg ((17 : Int32) * x2)))] rfl (fun _ => rfl) rfl ?_
        refine dg_s (pc' := 136) [.int (lg_cmp (m.2.1 (x0 + 28) (Int32.toNatClampNeg ((17 : Int32) * x2))) (-500000000000 : Int64))] rfl (fun _ => rfl) rfl ?_
        refine dw_if (fun t => Φ (Option.bind t (dc_bk (d_X10_isGraph_l111s x0 m)))) (0 ≤ (Int32.toInt (lg_cmp (m.2.1 (x0 + 28) (Int32.toNatClampNeg ((17 : Int32) * x2))) (-500000000000 : Int64)))) [] 143 139 rfl (fun _ => rfl) (fun c2 => ?_) (fun c2 => ?_)
        · refine dw_g rfl ?_
          refine dg_s (pc' := 144) [.int (0 : Int32)] rfl (fun _ => rfl) rfl ?_
          refine dg_L (pc' := 145) [(1, .int (0 : Int32)), (0, .ref x0), (2, .int x2)] [] rfl (fun _ => rfl) rfl ?_
          refine dg_L (pc' := 148) [(2, .int (x2 + (1 : Int32))), (1, .int (0 : Int32)), (0, .ref x0)] [] rfl (fun _ => rfl) rfl ?_
          refine dw_s (pc' := 111) [] rfl (fun _ => rfl) ?_
          exact dw_j rfl (fun lv1 hv => ih (0 : Int32) (x2 + (1 : Int32)) lv1 (hv.1 _ rfl) (hv.2.1 _ rfl) (hv.2.2.1 _ rfl))
        · refine dw_g rfl ?_
          refine dg_s (pc' := 140) [.int (1 : Int32)] rfl (fun _ => rfl) rfl ?_
          refine dg_s (pc' := 144) [.int (1 : Int32)] rfl (fun _ => rfl) rfl ?_
          refine dg_L (pc' := 145) [(1, .int (1 : Int32)), (0, .ref x0), (2, .int x2)] [] rfl (fun _ => rfl) rfl ?_
          refine dg_L (pc' := 148) [(2, .int (x2 + (1 : Int32))), (1, .int (1 : Int32)), (0, .ref x0)] [] rfl (fun _ => rfl) rfl ?_
          refine dw_s (pc' := 111) [] rfl (fun _ => rfl) ?_
          exact dw_j rfl (fun lv1 hv => ih (1 : Int32) (x2 + (1 : Int32)) lv1 (hv.1 _ rfl) (hv.2.1 _ rfl) (hv.2.2.1 _ rfl))
noncomputable def d_X10_isGraph_b102 (x0 : Nat) (x1 : Int32) (m : dc_M) : Option (Int32 × dc_M) :=
  ((d_X10_layWays x0 (1 : Int64) (0 : Int64) (1 : Int32) m).bind (fun q1 => (d_X10_isGraph_l111 x0 x1 (0 : Int32) q1)))
set_option maxHeartbeats 8000000 in
theorem k_X10_isGraph_b102 {u : Nat} {N : Nat} {Φ : (Option (Int32 × dc_M)) → Option Value → dc_M → Prop} (x0 : Nat) (x1 : Int32) (m : dc_M) (kR : ∀ (v : Int32) (m : dc_M), Φ (some ((v, m))) (some (.int v)) m)  {lv : ab_L} (f0 : ab_lk lv 0 = some (.ref x0)) (f1 : ab_lk lv 1 = some (.int x1)) : dc_pv u N ab_M_X10_isGraph 102 lv [] m (Φ (d_X10_isGraph_b102 x0 x1 m)) := by
  refine dc_pv.mono (dc_ok (C := C_X10_isGraph) (S := S_X10_isGraph) CO_X10_isGraph 400 102 [(0, .ref x0), (1, .int x1)] lv [] m (dc_sub_cons f0 (dc_sub_cons f1 (dc_sub_nil))) ?_) (Nat.le_succ N)
  unfold d_X10_isGraph_b102
  refine dg_s (pc' := 103) [.ref x0] rfl (fun _ => rfl) rfl ?_
  refine dg_s (pc' := 104) [.long (1 : Int64), .ref x0] rfl (fun _ => rfl) rfl ?_
  refine dg_s (pc' := 105) [.long (0 : Int64), .long (1 : Int64), .ref x0] rfl (fun _ => rfl) rfl ?_
  refine dg_s (pc' := 106) [.int (1 : Int32), .long (0 : Int64), .long (1 : Int64), .ref x0] rfl (fun _ => rfl) rfl ?_
  refine dw_b (fun t => Φ t) (pc' := 109) (fun q1 => []) (fun q1 => q1) rfl (fun _ => rfl) (fun q1 => ?_)
  refine dw_g rfl ?_
  refine dg_s (pc' := 110) [.int (0 : Int32)] rfl (fun _ => rfl) rfl ?_
  refine dw_L (pc' := 111) [(2, .int (0 : Int32)), (0, .ref x0), (1, .int x1)] [] rfl (fun _ => rfl) ?_
  exact dw_j rfl (fun lv1 hv => k_X10_isGraph_l111 (Φ := (fun t => Φ t)) x0 q1 (fun _a _b => kR _a _b) N  x1 (0 : Int32) lv1 (hv.1 _ rfl) (hv.2.1 _ rfl) (hv.2.2.1 _ rfl))
noncomputable def d_X10_isGraph_l60b (x0 : Nat) (x1 : Int32) (x2 : Int32) (m : dc_M) : Option ((Int32 × dc_M) ⊕ (Int32 × dc_M)) :=
  (if (Int32.toInt (m.1 x0 10)) ≤ (Int32.toInt x2) then ((d_X10_isGraph_b102 x0 x1 m).map (fun z => Sum.inr (z))) else ((d_X10_feeding x0 x2 m).bind (fun q1 => ((d_X10_leastOf q1 m).bind (fun q2 => ((d_X10_taking x0 x2 (dc_wi m (x0 + 29) (Int32.toNatClampNeg x2) q2)).bind (fun q3 => ((d_X10_leastOf q3 (dc_wi m (x0 + 29) (Int32.toNatClampNeg x2) q2)).bind (fun q4 => some (Sum.inl ((x2 + (1 : Int32)), (dc_wi (dc_wi m (x0 + 29) (Int32.toNatClampNeg x2) q2) (x0 + 30) (Int32.toNatClampNeg x2) q4))))))))))))
noncomputable def d_X10_isGraph_l60s (x0 : Nat) (x1 : Int32) : (Int32 × dc_M) → Option ((Int32 × dc_M) ⊕ (Int32 × dc_M)) := fun s => d_X10_isGraph_l60b x0 x1 s.1 s.2
noncomputable def d_X10_isGraph_l60 (x0 : Nat) (x1 : Int32) (x2 : Int32) (m : dc_M) : Option (Int32 × dc_M) := dc_lp (d_X10_isGraph_l60s x0 x1) (x2, m)
set_option maxHeartbeats 8000000 in
theorem k_X10_isGraph_l60 {u : Nat} {Φ : (Option (Int32 × dc_M)) → Option Value → dc_M → Prop} (x0 : Nat) (x1 : Int32) (kR : ∀ (v : Int32) (m : dc_M), Φ (some ((v, m))) (some (.int v)) m) : ∀ (N : Nat), ∀ (x2 : Int32) (m : dc_M) (lv : ab_L), ab_lk lv 0 = some (.ref x0) → ab_lk lv 1 = some (.int x1) → ab_lk lv 2 = some (.int x2) → dc_pv u N ab_M_X10_isGraph 60 lv [] m (Φ (d_X10_isGraph_l60 x0 x1 x2 m)) := by
  intro N
  induction N with
  | zero => intros; exact dc_pv_zero
  | succ N ih =>
    intro x2 m lv f0 f1 f2
    refine dc_ok (C := C_X10_isGraph) (S := S_X10_isGraph) CO_X10_isGraph 400 60 [(0, .ref x0), (1, .int x1), (2, .int x2)] lv [] m (dc_sub_cons f0 (dc_sub_cons f1 (dc_sub_cons f2 (dc_sub_nil)))) ?_
    unfold d_X10_isGraph_l60
    rw [dc_lp_eq]
    show (fun t x => dc_lf u N ab_M_X10_isGraph (Φ (Option.bind t (dc_bk (d_X10_isGraph_l60s x0 x1)))) x) (d_X10_isGraph_l60b x0 x1 x2 m) _
    dsimp only
    unfold d_X10_isGraph_l60b
    refine dg_s (pc' := 61) [.int x2] rfl (fun _ => rfl) rfl ?_
    refine dg_s (pc' := 62) [.ref x0, .int x2] rfl (fun _ => rfl) rfl ?_
    refine dg_s (pc' := 65) [.int (m.1 x0 10), .int x2] rfl (fun _ => rfl) rfl ?_
    refine dw_if (fun t => Φ (Option.bind t (dc_bk (d_X10_isGraph_l60s x0 x1)))) ((Int32.toInt (m.1 x0 10)) ≤ (Int32.toInt x2)) [] 102 68 rfl (fun _ => rfl) (fun c0 => ?_) (fun c0 => ?_)
    · exact dw_j rfl (fun lv1 hv => k_X10_isGraph_b102 (Φ := (fun t => Φ (Option.bind (t.map (fun z => Sum.inr (z))) (dc_bk (d_X10_isGraph_l60s x0 x1))))) x0 x1 m (fun _a _b => kR _a _b)  (hv.1 _ rfl) (hv.2.1 _ rfl))
    · refine dw_g rfl ?_
      refine dg_s (pc' := 69) [.ref x0] rfl (fun _ => rfl) rfl ?_
      refine dg_s (pc' := 72) [.ref (x0 + 29)] rfl (fun _ => rfl) rfl ?_
      refine dg_s (pc' := 73) [.int x2, .ref (x0 + 29)] rfl (fun _ => rfl) rfl ?_
      refine dg_s (pc' := 74) [.ref x0, .int x2, .ref (x0 + 29)] rfl (fun _ => rfl) rfl ?_
      refine dg_s (pc' := 75) [.int x2, .ref x0, .int x2, .ref (x0 + 29)] rfl (fun _ => rfl) rfl ?_
      refine dw_b (fun t => Φ (Option.bind t (dc_bk (d_X10_isGraph_l60s x0 x1)))) (pc' := 78) (fun q1 => [.int q1, .int x2, .ref (x0 + 29)]) (fun q1 => m) rfl (fun _ => rfl) (fun q1 => ?_)
      refine dw_g rfl ?_
      refine dw_b (fun t => Φ (Option.bind t (dc_bk (d_X10_isGraph_l60s x0 x1)))) (pc' := 81) (fun q2 => [.int q2, .int x2, .ref (x0 + 29)]) (fun q2 => m) rfl (fun _ => rfl) (fun q2 => ?_)
      refine dw_g rfl ?_
      refine dg_m (pc' := 82) (dc_wi m (x0 + 29) (Int32.toNatClampNeg x2) q2) [] rfl (fun _ => rfl) rfl ?_
      refine dg_s (pc' := 83) [.ref x0] rfl (fun _ => rfl) rfl ?_
      refine dg_s (pc' := 86) [.ref (x0 + 30)] rfl (fun _ => rfl) rfl ?_
      refine dg_s (pc' := 87) [.int x2, .ref (x0 + 30)] rfl (fun _ => rfl) rfl ?_
      refine dg_s (pc' := 88) [.ref x0, .int x2, .ref (x0 + 30)] rfl (fun _ => rfl) rfl ?_
      refine dg_s (pc' := 89) [.int x2, .ref x0, .int x2, .ref (x0 + 30)] rfl (fun _ => rfl) rfl ?_
      refine dw_b (fun t => Φ (Option.bind t (dc_bk (d_X10_isGraph_l60s x0 x1)))) (pc' := 92) (fun q3 => [.int q3, .int x2, .ref (x0 + 30)]) (fun q3 => (dc_wi m (x0 + 29) (Int32.toNatClampNeg x2) q2)) rfl (fun _ => rfl) (fun q3 => ?_)
      refine dw_g rfl ?_
      refine dw_b (fun t => Φ (Option.bind t (dc_bk (d_X10_isGraph_l60s x0 x1)))) (pc' := 95) (fun q4 => [.int q4, .int x2, .ref (x0 + 30)]) (fun q4 => (dc_wi m (x0 + 29) (Int32.toNatClampNeg x2) q2)) rfl (fun _ => rfl) (fun q4 => ?_)
      refine dw_g rfl ?_
      refine dg_m (pc' := 96) (dc_wi (dc_wi m (x0 + 29) (Int32.toNatClampNeg x2) q2) (x0 + 30) (Int32.toNatClampNeg x2) q4) [] rfl (fun _ => rfl) rfl ?_
      refine dg_L (pc' := 99) [(2, .int (x2 + (1 : Int32))), (0, .ref x0), (1, .int x1)] [] rfl (fun _ => rfl) rfl ?_
      refine dw_s (pc' := 60) [] rfl (fun _ => rfl) ?_
      exact dw_j rfl (fun lv1 hv => ih (x2 + (1 : Int32)) (dc_wi (dc_wi m (x0 + 29) (Int32.toNatClampNeg x2) q2) (x0 + 30) (Int32.toNatClampNeg x2) q4) lv1 (hv.1 _ rfl) (hv.2.1 _ rfl) (hv.2.2.1 _ rfl))
noncomputable def d_X10_isGraph_b52 (x0 : Nat) (x1 : Int32) (m : dc_M) : Option (Int32 × dc_M) :=
  (if ¬ (Int32.toInt x1) = 0 then (d_X10_isGraph_l60 x0 x1 (0 : Int32) m) else some (((0 : Int32), m)))
set_option maxHeartbeats 8000000 in
theorem k_X10_isGraph_b52 {u : Nat} {N : Nat} {Φ : (Option (Int32 × dc_M)) → Option Value → dc_M → Prop} (x0 : Nat) (x1 : Int32) (m : dc_M) (kR : ∀ (v : Int32) (m : dc_M), Φ (some ((v, m))) (some (.int v)) m)  {lv : ab_L} (f0 : ab_lk lv 0 = some (.ref x0)) (f1 : ab_lk lv 1 = some (.int x1)) : dc_pv u N ab_M_X10_isGraph 52 lv [] m (Φ (d_X10_isGraph_b52 x0 x1 m)) := by
  refine dc_pv.mono (dc_ok (C := C_X10_isGraph) (S := S_X10_isGraph) CO_X10_isGraph 400 52 [(0, .ref x0), (1, .int x1)] lv [] m (dc_sub_cons f0 (dc_sub_cons f1 (dc_sub_nil))) ?_) (Nat.le_succ N)
  unfold d_X10_isGraph_b52
  refine dg_s (pc' := 53) [.int x1] rfl (fun _ => rfl) rfl ?_
  refine dw_if (fun t => Φ t) (¬ (Int32.toInt x1) = 0) [] 58 56 rfl (fun _ => rfl) (fun c0 => ?_) (fun c0 => ?_)
  · refine dw_g rfl ?_
    refine dg_s (pc' := 59) [.int (0 : Int32)] rfl (fun _ => rfl) rfl ?_
    refine dw_L (pc' := 60) [(2, .int (0 : Int32)), (0, .ref x0), (1, .int x1)] [] rfl (fun _ => rfl) ?_
    exact dw_j rfl (fun lv1 hv => k_X10_isGraph_l60 (Φ := (fun t => Φ t)) x0 x1 (fun _a _b => kR _a _b) N  (0 : Int32) m lv1 (hv.1 _ rfl) (hv.2.1 _ rfl) (hv.2.2.1 _ rfl))
  · refine dw_g rfl ?_
    refine dg_s (pc' := 57) [.int (0 : Int32)] rfl (fun _ => rfl) rfl ?_
    exact dw_r (some (.inl (some (.int (0 : Int32)), m))) rfl (fun _ => rfl) (kR _ _)
noncomputable def d_X10_isGraph_l4b (x0 : Nat) (x1 : Int32) (x2 : Int32) (m : dc_M) : Option ((Int32 × Int32) ⊕ (Int32 × dc_M)) :=
  (if (Int32.toInt (m.1 x0 10)) ≤ (Int32.toInt x2) then ((d_X10_isGraph_b52 x0 x1 m).map (fun z => Sum.inr (z))) else (if (Int32.toInt x1) = 0 then some (Sum.inl ((0 : Int32), (x2 + (1 : Int32)))) else ((d_X10_feeding x0 x2 m).bind (fun q1 => ((d_X10_sizeOf q1 m).bind (fun q2 => (if ¬ (Int32.toInt q2) = 1 then some (Sum.inl ((0 : Int32), (x2 + (1 : Int32)))) else ((d_X10_taking x0 x2 m).bind (fun q3 => ((d_X10_sizeOf q3 m).bind (fun q4 => (if ¬ (Int32.toInt q4) = 1 then some (Sum.inl ((0 : Int32), (x2 + (1 : Int32)))) else some (Sum.inl ((1 : Int32), (x2 + (1 : Int32))))))))))))))))
noncomputable def d_X10_isGraph_l4s (x0 : Nat) (m : dc_M) : (Int32 × Int32) → Option ((Int32 × Int32) ⊕ (Int32 × dc_M)) := fun s => d_X10_isGraph_l4b x0 s.1 s.2 m
noncomputable def d_X10_isGraph_l4 (x0 : Nat) (x1 : Int32) (x2 : Int32) (m : dc_M) : Option (Int32 × dc_M) := dc_lp (d_X10_isGraph_l4s x0 m) (x1, x2)
set_option maxHeartbeats 8000000 in
theorem k_X10_isGraph_l4 {u : Nat} {Φ : (Option (Int32 × dc_M)) → Option Value → dc_M → Prop} (x0 : Nat) (m : dc_M) (kR : ∀ (v : Int32) (m : dc_M), Φ (some ((v, m))) (some (.int v)) m) : ∀ (N : Nat), ∀ (x1 : Int32) (x2 : Int32) (lv : ab_L), ab_lk lv 0 = some (.ref x0) → ab_lk lv 1 = some (.int x1) → ab_lk lv 2 = some (.int x2) → dc_pv u N ab_M_X10_isGraph 4 lv [] m (Φ (d_X10_isGraph_l4 x0 x1 x2 m)) := by
  intro N
  induction N with
  | zero => intros; exact dc_pv_zero
  | succ N ih =>
    intro x1 x2 lv f0 f1 f2
    refine dc_ok (C := C_X10_isGraph) (S := S_X10_isGraph) CO_X10_isGraph 400 4 [(0, .ref x0), (1, .int x1), (2, .int x2)] lv [] m (dc_sub_cons f0 (dc_sub_cons f1 (dc_sub_cons f2 (dc_sub_nil)))) ?_
    unfold d_X10_isGraph_l4
    rw [dc_lp_eq]
    show (fun t x => dc_lf u N ab_M_X10_isGraph (Φ (Option.bind t (dc_bk (d_X10_isGraph_l4s x0 m)))) x) (d_X10_isGraph_l4b x0 x1 x2 m) _
    dsimp only
    unfold d_X10_isGraph_l4b
    refine dg_s (pc' := 5) [.int x2] rfl (fun _ => rfl) rfl ?_
    refine dg_s (pc' := 6) [.ref x0, .int x2] rfl (fun _ => rfl) rfl ?_
    refine dg_s (pc' := 9) [.int (m.1 x0 10), .int x2] rfl (fun _ => rfl) rfl ?_
    refine dw_if (fun t => Φ (Option.bind t (dc_bk (d_X10_isGraph_l4s x0 m)))) ((Int32.toInt (m.1 x0 10)) ≤ (Int32.toInt x2)) [] 52 12 rfl (fun _ => rfl) (fun c0 => ?_) (fun c0 => ?_)
    · exact dw_j rfl (fun lv1 hv => k_X10_isGraph_b52 (Φ := (fun t => Φ (Option.bind (t.map (fun z => Sum.inr (z))) (dc_bk (d_X10_isGraph_l4s x0 m))))) x0 x1 m (fun _a _b => kR _a _b)  (hv.1 _ rfl) (hv.2.1 _ rfl))
    · refine dw_g rfl ?_
      refine dg_s (pc' := 13) [.int x1] rfl (fun _ => rfl) rfl ?_
      refine dw_if (fun t => Φ (Option.bind t (dc_bk (d_X10_isGraph_l4s x0 m)))) ((Int32.toInt x1) = 0) [] 44 16 rfl (fun _ => rfl) (fun c1 => ?_) (fun c1 => ?_)
      · refine dw_g rfl ?_
        refine dg_s (pc' := 45) [.int (0 : Int32)] rfl (fun _ => rfl) rfl ?_
        refine dg_L (pc' := 46) [(1, .int (0 : Int32)), (0, .ref x0), (2, .int x2)] [] rfl (fun _ => rfl) rfl ?_
        refine dg_L (pc' := 49) [(2, .int (x2 + (1 : Int32))), (1, .int (0 : Int32)), (0, .ref x0)] [] rfl (fun _ => rfl) rfl ?_
        refine dw_s (pc' := 4) [] rfl (fun _ => rfl) ?_
        exact dw_j rfl (fun lv1 hv => ih (0 : Int32) (x2 + (1 : Int32)) lv1 (hv.1 _ rfl) (hv.2.1 _ rfl) (hv.2.2.1 _ rfl))
      · refine dw_g rfl ?_
        refine dg_s (pc' := 17) [.ref x0] rfl (fun _ => rfl) rfl ?_
        refine dg_s (pc' := 18) [.int x2, .ref x0] rfl (fun _ => rfl) rfl ?_
        refine dw_b (fun t => Φ (Option.bind t (dc_bk (d_X10_isGraph_l4s x0 m)))) (pc' := 21) (fun q1 => [.int q1]) (fun q1 => m) rfl (fun _ => rfl) (fun q1 => ?_)
        refine dw_g rfl ?_
        refine dw_b (fun t => Φ (Option.bind t (dc_bk (d_X10_isGraph_l4s x0 m)))) (pc' := 24) (fun q2 => [.int q2]) (fun q2 => m) rfl (fun _ => rfl) (fun q2 => ?_)
        refine dw_g rfl ?_
        refine dg_s (pc' := 25) [.int (1 : Int32), .int q2] rfl (fun _ => rfl) rfl ?_
        refine dw_if (fun t => Φ (Option.bind t (dc_bk (d_X10_isGraph_l4s x0 m)))) (¬ (Int32.toInt q2) = 1) [] 44 28 rfl (fun _ => rfl) (fun c2 => ?_) (fun c2 => ?_)
        · refine dw_g rfl ?_
          refine dg_s (pc' := 45) [.int (0 : Int32)] rfl (fun _ => rfl) rfl ?_
          refine dg_L (pc' := 46) [(1, .int (0 : Int32)), (0, .ref x0), (2, .int x2)] [] rfl (fun _ => rfl) rfl ?_
          refine dg_L (pc' := 49) [(2, .int (x2 + (1 : Int32))), (1, .int (0 : Int32)), (0, .ref x0)] [] rfl (fun _ => rfl) rfl ?_
          refine dw_s (pc' := 4) [] rfl (fun _ => rfl) ?_
          exact dw_j rfl (fun lv1 hv => ih (0 : Int32) (x2 + (1 : Int32)) lv1 (hv.1 _ rfl) (hv.2.1 _ rfl) (hv.2.2.1 _ rfl))
        · refine dw_g rfl ?_
          refine dg_s (pc' := 29) [.ref x0] rfl (fun _ => rfl) rfl ?_
          refine dg_s (pc' := 30) [.int x2, .ref x0] rfl (fun _ => rfl) rfl ?_
          refine dw_b (fun t => Φ (Option.bind t (dc_bk (d_X10_isGraph_l4s x0 m)))) (pc' := 33) (fun q3 => [.int q3]) (fun q3 => m) rfl (fun _ => rfl) (fun q3 => ?_)
          refine dw_g rfl ?_
          refine dw_b (fun t => Φ (Option.bind t (dc_bk (d_X10_isGraph_l4s x0 m)))) (pc' := 36) (fun q4 => [.int q4]) (fun q4 => m) rfl (fun _ => rfl) (fun q4 => ?_)
          refine dw_g rfl ?_
          refine dg_s (pc' := 37) [.int (1 : Int32), .int q4] rfl (fun _ => rfl) rfl ?_
          refine dw_if (fun t => Φ (Option.bind t (dc_bk (d_X10_isGraph_l4s x0 m)))) (¬ (Int32.toInt q4) = 1) [] 44 40 rfl (fun _ => rfl) (fun c3 => ?_) (fun c3 => ?_)
          · refine dw_g rfl ?_
            refine dg_s (pc' := 45) [.int (0 : Int32)] rfl (fun _ => rfl) rfl ?_
            refine dg_L (pc' := 46) [(1, .int (0 : Int32)), (0, .ref x0), (2, .int x2)] [] rfl (fun _ => rfl) rfl ?_
            refine dg_L (pc' := 49) [(2, .int (x2 + (1 : Int32))), (1, .int (0 : Int32)), (0, .ref x0)] [] rfl (fun _ => rfl) rfl ?_
            refine dw_s (pc' := 4) [] rfl (fun _ => rfl) ?_
            exact dw_j rfl (fun lv1 hv => ih (0 : Int32) (x2 + (1 : Int32)) lv1 (hv.1 _ rfl) (hv.2.1 _ rfl) (hv.2.2.1 _ rfl))
          · refine dw_g rfl ?_
            refine dg_s (pc' := 41) [.int (1 : Int32)] rfl (fun _ => rfl) rfl ?_
            refine dg_s (pc' := 45) [.int (1 : Int32)] rfl (fun _ => rfl) rfl ?_
            refine dg_L (pc' := 46) [(1, .int (1 : Int32)), (0, .ref x0), (2, .int x2)] [] rfl (fun _ => rfl) rfl ?_
            refine dg_L (pc' := 49) [(2, .int (x2 + (1 : Int32))), (1, .int (1 : Int32)), (0, .ref x0)] [] rfl (fun _ => rfl) rfl ?_
            refine dw_s (pc' := 4) [] rfl (fun _ => rfl) ?_
            exact dw_j rfl (fun lv1 hv => ih (1 : Int32) (x2 + (1 : Int32)) lv1 (hv.1 _ rfl) (hv.2.1 _ rfl) (hv.2.2.1 _ rfl))
noncomputable def d_X10_isGraph (x0 : Nat) (m : dc_M) : Option (Int32 × dc_M) :=
  (d_X10_isGraph_l4 x0 (1 : Int32) (0 : Int32) m)
set_option maxHeartbeats 8000000 in
theorem k_X10_isGraph {u : Nat} {N : Nat} {Φ : (Option (Int32 × dc_M)) → Option Value → dc_M → Prop} (x0 : Nat) (m : dc_M) (kR : ∀ (v : Int32) (m : dc_M), Φ (some ((v, m))) (some (.int v)) m)  {lv : ab_L} (f0 : ab_lk lv 0 = some (.ref x0)) : dc_pv u N ab_M_X10_isGraph 0 lv [] m (Φ (d_X10_isGraph x0 m)) := by
  refine dc_pv.mono (dc_ok (C := C_X10_isGraph) (S := S_X10_isGraph) CO_X10_isGraph 400 0 [(0, .ref x0)] lv [] m (dc_sub_cons f0 (dc_sub_nil)) ?_) (Nat.le_succ N)
  unfold d_X10_isGraph
  refine dg_s (pc' := 1) [.int (1 : Int32)] rfl (fun _ => rfl) rfl ?_
  refine dg_L (pc' := 2) [(1, .int (1 : Int32)), (0, .ref x0)] [] rfl (fun _ => rfl) rfl ?_
  refine dg_s (pc' := 3) [.int (0 : Int32)] rfl (fun _ => rfl) rfl ?_
  refine dw_L (pc' := 4) [(2, .int (0 : Int32)), (1, .int (1 : Int32)), (0, .ref x0)] [] rfl (fun _ => rfl) ?_
  exact dw_j rfl (fun lv1 hv => k_X10_isGraph_l4 (Φ := (fun t => Φ t)) x0 m (fun _a _b => kR _a _b) N  (1 : Int32) (0 : Int32) lv1 (hv.1 _ rfl) (hv.2.1 _ rfl) (hv.2.2.1 _ rfl))
noncomputable def H_X10_isGraph : dc_H := fun As m k => match As with
  | [.ref x0] => (d_X10_isGraph x0 m).bind (fun q => k (some (.int q.1)) q.2)
  | _ => dc_kz
theorem H_X10_isGraph_ok {u : Nat} : dc_cok u 215 H_X10_isGraph := fun M' hG N As m k P hz hP => by
  obtain rfl : ab_M_X10_isGraph = M' := Option.some.inj hG
  unfold H_X10_isGraph at hP
  split at hP
  · rename_i x0
    exact dc_pv.imp (k_X10_isGraph (Φ := fun (t : Option (Int32 × dc_M)) r m' => P (t.bind (fun q => k (some (.int q.1)) q.2)) → P (k r m')) x0 m (fun _ _ h => h) rfl) (fun r m' h => h hP)
  · exact absurd hP hz
noncomputable def C_X10_beat : List (Nat × dc_H) := [(217, H_X10_divisor), (216, H_X10_hasRing), (146, H_X10_in), (215, H_X10_isGraph), (214, H_X10_layWays)]
theorem CO_X10_beat {u : Nat} : dc_CO u C_X10_beat := dc_CO_cons H_X10_divisor_ok (dc_CO_cons H_X10_hasRing_ok (dc_CO_cons H_X10_in_ok (dc_CO_cons H_X10_isGraph_ok (dc_CO_cons H_X10_layWays_ok (dc_CO_nil)))))
def S_X10_beat : List (Nat × List Nat) := [(43, [0, 1, 2, 3, 4]), (58, [0, 1, 2, 3, 4, 5, 6]), (101, [0, 1, 2, 3, 4, 5]), (124, [0, 1, 2, 3]), (167, [0, 5, 6])]
noncomputable def d_X10_beat_l167b (x0 : Nat) (x5 : Int32) (x6 : Int32) (m : dc_M) : Option ((Int32 × Int32) ⊕ (Int32 × dc_M)) :=
  (if (Int32.toInt (m.1 x0 3)) ≤ (Int32.toInt x6) then some (Sum.inr ((x5, m))) else (if ¬ (Int32.toInt (lg_cmp (m.2.1 (x0 + 28) (Int32.toNatClampNeg ((17 : Int32) * x6))) (0 : Int64))) = 0 then some (Sum.inl ((x5 ||| (0 : Int32)), (x6 + (1 : Int32)))) else some (Sum.inl ((x5 ||| ((1 : Int32) <<< (x6 &&& 31))), (x6 + (1 : Int32))))))
noncomputable def d_X10_beat_l167s (x0 : Nat) (m : dc_M) : (Int32 × Int32) → Option ((Int32 × Int32) ⊕ (Int32 × dc_M)) := fun s => d_X10_beat_l167b x0 s.1 s.2 m
noncomputable def d_X10_beat_l167 (x0 : Nat) (x5 : Int32) (x6 : Int32) (m : dc_M) : Option (Int32 × dc_M) := dc_lp (d_X10_beat_l167s x0 m) (x5, x6)
set_option maxHeartbeats 8000000 in
theorem k_X10_beat_l167 {u : Nat} {Φ : (Option (Int32 × dc_M)) → Option Value → dc_M → Prop} (x0 : Nat) (m : dc_M) (kR : ∀ (v : Int32) (m : dc_M), Φ (some ((v, m))) (some (.int v)) m) : ∀ (N : Nat), ∀ (x5 : Int32) (x6 : Int32) (lv : ab_L), ab_lk lv 0 = some (.ref x0) → ab_lk lv 5 = some (.int x5) → ab_lk lv 6 = some (.int x6) → dc_pv u N ab_M_X10_beat 167 lv [] m (Φ (d_X10_beat_l167 x0 x5 x6 m)) := by
  intro N
  induction N with
  | zero => intros; exact dc_pv_zero
  | succ N ih =>
    intro x5 x6 lv f0 f5 f6
    refine dc_ok (C := C_X10_beat) (S := S_X10_beat) CO_X10_beat 400 167 [(0, .ref x0), (5, .int x5), (6, .int x6)] lv [] m (dc_sub_cons f0 (dc_sub_cons f5 (dc_sub_cons f6 (dc_sub_nil)))) ?_
    unfold d_X10_beat_l167
    rw [dc_lp_eq]
    show (fun t x => dc_lf u N ab_M_X10_beat (Φ (Option.bind t (dc_bk (d_X10_beat_l167s x0 m)))) x) (d_X10_beat_l167b x0 x5 x6 m) _
    dsimp only
    unfold d_X10_beat_l167b
    refine dg_s (pc' := 169) [.int x6] rfl (fun _ => rfl) rfl ?_
    refine dg_s (pc' := 170) [.ref x0, .int x6] rfl (fun _ => rfl) rfl ?_
    refine dg_s (pc' := 173) [.int (m.1 x0 3), .int x6] rfl (fun _ => rfl) rfl ?_
    refine dw_if (fun t => Φ (Option.bind t (dc_bk (d_X10_beat_l167s x0 m)))) ((Int32.toInt (m.1 x0 3)) ≤ (Int32.toInt x6)) [] 210 176 rfl (fun _ => rfl) (fun c0 => ?_) (fun c0 => ?_)
    · refine dw_g rfl ?_
      refine dg_s (pc' := 212) [.int x5] rfl (fun _ => rfl) rfl ?_
      exact dw_r (some (.inl (some (.int x5), m))) rfl (fun _ => rfl) (kR _ _)
    · refine dw_g rfl ?_
      refine dg_s (pc' := 178) [.int x5] rfl (fun _ => rfl) rfl ?_
      refine dg_s (pc' := 179) [.ref x0, .int x5] rfl (fun _ => rfl) rfl ?_
      refine dg_s (pc' := 182) [.ref (x0 + 28), .int x5] rfl (fun _ => rfl) rfl ?_
      refine dg_s (pc' := 184) [.int (17 : Int32), .ref (x0 + 28), .int x5] rfl (fun _ => rfl) rfl ?_
      refine dg_s (pc' := 186) [.int x6, .int (17 : Int32), .ref (x0 + 28), .int x5] rfl (fun _ => rfl) rfl ?_
      refine dg_s (pc' := 187) [.int ((17 : Int32) * x6), .ref (x0 + 28), .int x5] rfl (fun _ => rfl) rfl ?_
      refine dg_s (pc' := 188) [.long (m.2.1 (x0 + 28) (Int32.toNatClampNeg ((17 : Int32) * x6))), .int x5] rfl (fun _ => rfl) rfl ?_
      refine dg_s (pc' := 189) [.long (0 : Int64), .long (m.2.1 (x0 + 28) (Int32.toNatClampNeg ((17 : Int32) * x6))), .int x5] rfl (fun _ => rfl) rfl ?_
      refine dg_s (pc' := 190) [.int (lg_cmp (m.2.1 (x0 + 28) (Int32.toNatClampNeg ((17 : Int32) * x6))) (0 : Int64)), .int x5] rfl (fun _ => rfl) rfl ?_
      refine dw_if (fun t => Φ (Option.bind t (dc_bk (d_X10_beat_l167s x0 m)))) (¬ (Int32.toInt (lg_cmp (m.2.1 (x0 + 28) (Int32.toNatClampNeg ((17 : Int32) * x6))) (0 : Int64))) = 0) [.int x5] 200 193 rfl (fun _ => rfl) (fun c1 => ?_) (fun c1 => ?_)
      · refine dw_g rfl ?_
        refine dg_s (pc' := 201) [.int (0 : Int32), .int x5] rfl (fun _ => rfl) rfl ?_
        refine dg_s (pc' := 202) [.int (x5 ||| (0 : Int32))] rfl (fun _ => rfl) rfl ?_
        refine dg_L (pc' := 204) [(5, .int (x5 ||| (0 : Int32))), (0, .ref x0), (6, .int x6)] [] rfl (fun _ => rfl) rfl ?_
        refine dg_L (pc' := 207) [(6, .int (x6 + (1 : Int32))), (5, .int (x5 ||| (0 : Int32))), (0, .ref x0)] [] rfl (fun _ => rfl) rfl ?_
        refine dw_s (pc' := 167) [] rfl (fun _ => rfl) ?_
        exact dw_j rfl (fun lv1 hv => ih (x5 ||| (0 : Int32)) (x6 + (1 : Int32)) lv1 (hv.1 _ rfl) (hv.2.1 _ rfl) (hv.2.2.1 _ rfl))
      · refine dw_g rfl ?_
        refine dg_s (pc' := 194) [.int (1 : Int32), .int x5] rfl (fun _ => rfl) rfl ?_
        refine dg_s (pc' := 196) [.int x6, .int (1 : Int32), .int x5] rfl (fun _ => rfl) rfl ?_
        refine dg_s (pc' := 197) [.int ((1 : Int32) <<< (x6 &&& 31)), .int x5] rfl (fun _ => rfl) rfl ?_
        refine dg_s (pc' := 201) [.int ((1 : Int32) <<< (x6 &&& 31)), .int x5] rfl (fun _ => rfl) rfl ?_
        refine dg_s (pc' := 202) [.int (x5 ||| ((1 : Int32) <<< (x6 &&& 31)))] rfl (fun _ => rfl) rfl ?_
        refine dg_L (pc' := 204) [(5, .int (x5 ||| ((1 : Int32) <<< (x6 &&& 31)))), (0, .ref x0), (6, .int x6)] [] rfl (fun _ => rfl) rfl ?_
        refine dg_L (pc' := 207) [(6, .int (x6 + (1 : Int32))), (5, .int (x5 ||| ((1 : Int32) <<< (x6 &&& 31)))), (0, .ref x0)] [] rfl (fun _ => rfl) rfl ?_
        refine dw_s (pc' := 167) [] rfl (fun _ => rfl) ?_
        exact dw_j rfl (fun lv1 hv => ih (x5 ||| ((1 : Int32) <<< (x6 &&& 31))) (x6 + (1 : Int32)) lv1 (hv.1 _ rfl) (hv.2.1 _ rfl) (hv.2.2.1 _ rfl))
noncomputable def d_X10_beat_b124 (x0 : Nat) (x1 : Int32) (x2 : Int32) (x3 : Int32) (m : dc_M) : Option (Int32 × dc_M) :=
  ((d_X10_divisor x2 x3 m).bind (fun q1 => (if 2 ≤ (Int32.toInt x1) then ((d_X10_layWays x0 (Int32.toInt64 x3) (Int32.toInt64 x2) (0 : Int32) m).bind (fun q2 => (d_X10_beat_l167 x0 (0 : Int32) (0 : Int32) q2))) else (if ¬ (Int32.toInt x1) = 0 then some (((x3 / q1), m)) else some (((x2 / q1), m))))))
set_option maxHeartbeats 8000000 in
theorem k_X10_beat_b124 {u : Nat} {N : Nat} {Φ : (Option (Int32 × dc_M)) → Option Value → dc_M → Prop} (x0 : Nat) (x1 : Int32) (x2 : Int32) (x3 : Int32) (m : dc_M) (kR : ∀ (v : Int32) (m : dc_M), Φ (some ((v, m))) (some (.int v)) m)  {lv : ab_L} (f0 : ab_lk lv 0 = some (.ref x0)) (f1 : ab_lk lv 1 = some (.int x1)) (f2 : ab_lk lv 2 = some (.int x2)) (f3 : ab_lk lv 3 = some (.int x3)) : dc_pv u N ab_M_X10_beat 124 lv [] m (Φ (d_X10_beat_b124 x0 x1 x2 x3 m)) := by
  refine dc_pv.mono (dc_ok (C := C_X10_beat) (S := S_X10_beat) CO_X10_beat 400 124 [(0, .ref x0), (1, .int x1), (2, .int x2), (3, .int x3)] lv [] m (dc_sub_cons f0 (dc_sub_cons f1 (dc_sub_cons f2 (dc_sub_cons f3 (dc_sub_nil))))) ?_) (Nat.le_succ N)
  unfold d_X10_beat_b124
  refine dg_s (pc' := 125) [.int x2] rfl (fun _ => rfl) rfl ?_
  refine dg_s (pc' := 126) [.int x3, .int x2] rfl (fun _ => rfl) rfl ?_
  refine dw_b (fun t => Φ t) (pc' := 129) (fun q1 => [.int q1]) (fun q1 => m) rfl (fun _ => rfl) (fun q1 => ?_)
  refine dw_g rfl ?_
  refine dg_L (pc' := 131) [(4, .int q1), (0, .ref x0), (1, .int x1), (2, .int x2), (3, .int x3)] [] rfl (fun _ => rfl) rfl ?_
  refine dg_s (pc' := 132) [.int x1] rfl (fun _ => rfl) rfl ?_
  refine dg_s (pc' := 133) [.int (2 : Int32), .int x1] rfl (fun _ => rfl) rfl ?_
  refine dw_if (fun t => Φ t) (2 ≤ (Int32.toInt x1)) [] 152 136 rfl (fun _ => rfl) (fun c0 => ?_) (fun c0 => ?_)
  · refine dw_g rfl ?_
    refine dg_s (pc' := 153) [.ref x0] rfl (fun _ => rfl) rfl ?_
    refine dg_s (pc' := 154) [.int x3, .ref x0] rfl (fun _ => rfl) rfl ?_
    refine dg_s (pc' := 155) [.long (Int32.toInt64 x3), .ref x0] rfl (fun _ => rfl) rfl ?_
    refine dg_s (pc' := 156) [.int x2, .long (Int32.toInt64 x3), .ref x0] rfl (fun _ => rfl) rfl ?_
    refine dg_s (pc' := 157) [.long (Int32.toInt64 x2), .long (Int32.toInt64 x3), .ref x0] rfl (fun _ => rfl) rfl ?_
    refine dg_s (pc' := 158) [.int (0 : Int32), .long (Int32.toInt64 x2), .long (Int32.toInt64 x3), .ref x0] rfl (fun _ => rfl) rfl ?_
    refine dw_b (fun t => Φ t) (pc' := 161) (fun q2 => []) (fun q2 => q2) rfl (fun _ => rfl) (fun q2 => ?_)
    refine dw_g rfl ?_
    refine dg_s (pc' := 162) [.int (0 : Int32)] rfl (fun _ => rfl) rfl ?_
    refine dg_L (pc' := 164) [(5, .int (0 : Int32)), (4, .int q1), (0, .ref x0), (1, .int x1), (2, .int x2), (3, .int x3)] [] rfl (fun _ => rfl) rfl ?_
    refine dg_s (pc' := 165) [.int (0 : Int32)] rfl (fun _ => rfl) rfl ?_
    refine dw_L (pc' := 167) [(6, .int (0 : Int32)), (5, .int (0 : Int32)), (4, .int q1), (0, .ref x0), (1, .int x1), (2, .int x2), (3, .int x3)] [] rfl (fun _ => rfl) ?_
    exact dw_j rfl (fun lv1 hv => k_X10_beat_l167 (Φ := (fun t => Φ t)) x0 q2 (fun _a _b => kR _a _b) N  (0 : Int32) (0 : Int32) lv1 (hv.1 _ rfl) (hv.2.1 _ rfl) (hv.2.2.1 _ rfl))
  · refine dw_g rfl ?_
    refine dg_s (pc' := 137) [.int x1] rfl (fun _ => rfl) rfl ?_
    refine dw_if (fun t => Φ t) (¬ (Int32.toInt x1) = 0) [] 147 140 rfl (fun _ => rfl) (fun c1 => ?_) (fun c1 => ?_)
    · refine dw_g rfl ?_
      refine dg_s (pc' := 148) [.int x3] rfl (fun _ => rfl) rfl ?_
      refine dg_s (pc' := 150) [.int q1, .int x3] rfl (fun _ => rfl) rfl ?_
      refine dg_s (pc' := 151) [.int (x3 / q1)] rfl (fun _ => rfl) rfl ?_
      exact dw_r (some (.inl (some (.int (x3 / q1)), m))) rfl (fun _ => rfl) (kR _ _)
    · refine dw_g rfl ?_
      refine dg_s (pc' := 141) [.int x2] rfl (fun _ => rfl) rfl ?_
      refine dg_s (pc' := 143) [.int q1, .int x2] rfl (fun _ => rfl) rfl ?_
      refine dg_s (pc' := 144) [.int (x2 / q1)] rfl (fun _ => rfl) rfl ?_
      refine dg_s (pc' := 151) [.int (x2 / q1)] rfl (fun _ => rfl) rfl ?_
      exact dw_r (some (.inl (some (.int (x2 / q1)), m))) rfl (fun _ => rfl) (kR _ _)
noncomputable def d_X10_beat_b101 (x0 : Nat) (x1 : Int32) (x2 : Int32) (x3 : Int32) (x4 : Int32) (x5 : Int32) (m : dc_M) : Option ((Int32 × Int32 × Int32 × dc_M) ⊕ (Int32 × dc_M)) :=
  (if (Int32.toInt (x5 * x3)) ≤ (Int32.toInt (x2 * x4)) then some (Sum.inl (x2, x3, (x4 + (1 : Int32)), m)) else some (Sum.inl (x5, x4, (x4 + (1 : Int32)), m)))
set_option maxHeartbeats 8000000 in
theorem k_X10_beat_b101 {u : Nat} {N : Nat} {Φ : (Option ((Int32 × Int32 × Int32 × dc_M) ⊕ (Int32 × dc_M))) → Option Value → dc_M → Prop} (x0 : Nat) (x1 : Int32) (x2 : Int32) (x3 : Int32) (x4 : Int32) (x5 : Int32) (m : dc_M) (kR : ∀ (v : Int32) (m : dc_M), Φ (some (Sum.inr ((v, m)))) (some (.int v)) m) (k43 : ∀ (x2 : Int32) (x3 : Int32) (x4 : Int32) (m : dc_M) (lv : ab_L), ab_lk lv 0 = some (.ref x0) → ab_lk lv 1 = some (.int x1) → ab_lk lv 2 = some (.int x2) → ab_lk lv 3 = some (.int x3) → ab_lk lv 4 = some (.int x4) →  dc_pv u N ab_M_X10_beat 43 lv [] m (Φ (some (Sum.inl (x2, x3, x4, m))))) {lv : ab_L} (f0 : ab_lk lv 0 = some (.ref x0)) (f1 : ab_lk lv 1 = some (.int x1)) (f2 : ab_lk lv 2 = some (.int x2)) (f3 : ab_lk lv 3 = some (.int x3)) (f4 : ab_lk lv 4 = some (.int x4)) (f5 : ab_lk lv 5 = some (.int x5)) : dc_pv u N ab_M_X10_beat 101 lv [] m (Φ (d_X10_beat_b101 x0 x1 x2 x3 x4 x5 m)) := by
  refine dc_pv.mono (dc_ok (C := C_X10_beat) (S := S_X10_beat) CO_X10_beat 400 101 [(0, .ref x0), (1, .int x1), (2, .int x2), (3, .int x3), (4, .int x4), (5, .int x5)] lv [] m (dc_sub_cons f0 (dc_sub_cons f1 (dc_sub_cons f2 (dc_sub_cons f3 (dc_sub_cons f4 (dc_sub_cons f5 (dc_sub_nil))))))) ?_) (Nat.le_succ N)
  unfold d_X10_beat_b101
  refine dg_s (pc' := 103) [.int x5] rfl (fun _ => rfl) rfl ?_
  refine dg_s (pc' := 104) [.int x3, .int x5] rfl (fun _ => rfl) rfl ?_
  refine dg_s (pc' := 105) [.int (x5 * x3)] rfl (fun _ => rfl) rfl ?_
  refine dg_s (pc' := 106) [.int x2, .int (x5 * x3)] rfl (fun _ => rfl) rfl ?_
  refine dg_s (pc' := 108) [.int x4, .int x2, .int (x5 * x3)] rfl (fun _ => rfl) rfl ?_
  refine dg_s (pc' := 109) [.int (x2 * x4), .int (x5 * x3)] rfl (fun _ => rfl) rfl ?_
  refine dw_if (fun t => Φ t) ((Int32.toInt (x5 * x3)) ≤ (Int32.toInt (x2 * x4))) [] 118 112 rfl (fun _ => rfl) (fun c0 => ?_) (fun c0 => ?_)
  · refine dw_g rfl ?_
    refine dg_L (pc' := 121) [(4, .int (x4 + (1 : Int32))), (0, .ref x0), (1, .int x1), (2, .int x2), (3, .int x3), (5, .int x5)] [] rfl (fun _ => rfl) rfl ?_
    refine dw_s (pc' := 43) [] rfl (fun _ => rfl) ?_
    exact dw_j rfl (fun lv1 hv => k43 x2 x3 (x4 + (1 : Int32)) m lv1 (hv.1 _ rfl) (hv.2.1 _ rfl) (hv.2.2.1 _ rfl) (hv.2.2.2.1 _ rfl) (hv.2.2.2.2.1 _ rfl))
  · refine dw_g rfl ?_
    refine dg_s (pc' := 114) [.int x5] rfl (fun _ => rfl) rfl ?_
    refine dg_L (pc' := 115) [(2, .int x5), (0, .ref x0), (1, .int x1), (3, .int x3), (4, .int x4), (5, .int x5)] [] rfl (fun _ => rfl) rfl ?_
    refine dg_s (pc' := 117) [.int x4] rfl (fun _ => rfl) rfl ?_
    refine dg_L (pc' := 118) [(3, .int x4), (2, .int x5), (0, .ref x0), (1, .int x1), (4, .int x4), (5, .int x5)] [] rfl (fun _ => rfl) rfl ?_
    refine dg_L (pc' := 121) [(4, .int (x4 + (1 : Int32))), (3, .int x4), (2, .int x5), (0, .ref x0), (1, .int x1), (5, .int x5)] [] rfl (fun _ => rfl) rfl ?_
    refine dw_s (pc' := 43) [] rfl (fun _ => rfl) ?_
    exact dw_j rfl (fun lv1 hv => k43 x5 x4 (x4 + (1 : Int32)) m lv1 (hv.1 _ rfl) (hv.2.1 _ rfl) (hv.2.2.1 _ rfl) (hv.2.2.2.1 _ rfl) (hv.2.2.2.2.1 _ rfl))
noncomputable def d_X10_beat_l58b (x0 : Nat) (x1 : Int32) (x2 : Int32) (x3 : Int32) (x4 : Int32) (x5 : Int32) (x6 : Int32) (m : dc_M) : Option ((Int32 × Int32 × dc_M) ⊕ ((Int32 × Int32 × Int32 × dc_M) ⊕ (Int32 × dc_M))) :=
  (if (Int32.toInt (x6 - x5)) ≤ 1 then ((d_X10_beat_b101 x0 x1 x2 x3 x4 x5 m).map (fun z => Sum.inr (z))) else ((d_X10_hasRing x0 ((x5 + x6) / (2 : Int32)) x4 m).bind (fun q1 => (if (Int32.toInt q1.1) = 0 then some (Sum.inl (x5, ((x5 + x6) / (2 : Int32)), q1.2)) else some (Sum.inl (((x5 + x6) / (2 : Int32)), x6, q1.2))))))
noncomputable def d_X10_beat_l58s (x0 : Nat) (x1 : Int32) (x2 : Int32) (x3 : Int32) (x4 : Int32) : (Int32 × Int32 × dc_M) → Option ((Int32 × Int32 × dc_M) ⊕ ((Int32 × Int32 × Int32 × dc_M) ⊕ (Int32 × dc_M))) := fun s => d_X10_beat_l58b x0 x1 x2 x3 x4 s.1 s.2.1 s.2.2
noncomputable def d_X10_beat_l58 (x0 : Nat) (x1 : Int32) (x2 : Int32) (x3 : Int32) (x4 : Int32) (x5 : Int32) (x6 : Int32) (m : dc_M) : Option ((Int32 × Int32 × Int32 × dc_M) ⊕ (Int32 × dc_M)) := dc_lp (d_X10_beat_l58s x0 x1 x2 x3 x4) (x5, x6, m)
set_option maxHeartbeats 8000000 in
theorem k_X10_beat_l58 {u : Nat} {Φ : (Option ((Int32 × Int32 × Int32 × dc_M) ⊕ (Int32 × dc_M))) → Option Value → dc_M → Prop} (x0 : Nat) (x1 : Int32) (x2 : Int32) (x3 : Int32) (x4 : Int32) (kR : ∀ (v : Int32) (m : dc_M), Φ (some (Sum.inr ((v, m)))) (some (.int v)) m) : ∀ (N : Nat), (∀ (x2 : Int32) (x3 : Int32) (x4 : Int32) (m : dc_M) (lv : ab_L), ab_lk lv 0 = some (.ref x0) → ab_lk lv 1 = some (.int x1) → ab_lk lv 2 = some (.int x2) → ab_lk lv 3 = some (.int x3) → ab_lk lv 4 = some (.int x4) →  dc_pv u N ab_M_X10_beat 43 lv [] m (Φ (some (Sum.inl (x2, x3, x4, m))))) → ∀ (x5 : Int32) (x6 : Int32) (m : dc_M) (lv : ab_L), ab_lk lv 0 = some (.ref x0) → ab_lk lv 1 = some (.int x1) → ab_lk lv 2 = some (.int x2) → ab_lk lv 3 = some (.int x3) → ab_lk lv 4 = some (.int x4) → ab_lk lv 5 = some (.int x5) → ab_lk lv 6 = some (.int x6) → dc_pv u N ab_M_X10_beat 58 lv [] m (Φ (d_X10_beat_l58 x0 x1 x2 x3 x4 x5 x6 m)) := by
  intro N
  induction N with
  | zero => intros; exact dc_pv_zero
  | succ N ih =>
    intro k43 x5 x6 m lv f0 f1 f2 f3 f4 f5 f6
    have k43 := fun a0 a1 a2 a3 a4 a5 a6 a7 a8 a9 => (k43 a0 a1 a2 a3 a4 a5 a6 a7 a8 a9).mono (Nat.le_succ N)
    have ih := ih k43
    refine dc_ok (C := C_X10_beat) (S := S_X10_beat) CO_X10_beat 400 58 [(0, .ref x0), (1, .int x1), (2, .int x2), (3, .int x3), (4, .int x4), (5, .int x5), (6, .int x6)] lv [] m (dc_sub_cons f0 (dc_sub_cons f1 (dc_sub_cons f2 (dc_sub_cons f3 (dc_sub_cons f4 (dc_sub_cons f5 (dc_sub_cons f6 (dc_sub_nil)))))))) ?_
    unfold d_X10_beat_l58
    rw [dc_lp_eq]
    show (fun t x => dc_lf u N ab_M_X10_beat (Φ (Option.bind t (dc_bk (d_X10_beat_l58s x0 x1 x2 x3 x4)))) x) (d_X10_beat_l58b x0 x1 x2 x3 x4 x5 x6 m) _
    dsimp only
    unfold d_X10_beat_l58b
    refine dg_s (pc' := 60) [.int x6] rfl (fun _ => rfl) rfl ?_
    refine dg_s (pc' := 62) [.int x5, .int x6] rfl (fun _ => rfl) rfl ?_
    refine dg_s (pc' := 63) [.int (x6 - x5)] rfl (fun _ => rfl) rfl ?_
    refine dg_s (pc' := 64) [.int (1 : Int32), .int (x6 - x5)] rfl (fun _ => rfl) rfl ?_
    refine dw_if (fun t => Φ (Option.bind t (dc_bk (d_X10_beat_l58s x0 x1 x2 x3 x4)))) ((Int32.toInt (x6 - x5)) ≤ 1) [] 101 67 rfl (fun _ => rfl) (fun c0 => ?_) (fun c0 => ?_)
    · exact dw_j rfl (fun lv1 hv => k_X10_beat_b101 (Φ := (fun t => Φ (Option.bind (t.map (fun z => Sum.inr (z))) (dc_bk (d_X10_beat_l58s x0 x1 x2 x3 x4))))) x0 x1 x2 x3 x4 x5 m (fun _a _b => kR _a _b) k43 (hv.1 _ rfl) (hv.2.1 _ rfl) (hv.2.2.1 _ rfl) (hv.2.2.2.1 _ rfl) (hv.2.2.2.2.1 _ rfl) (hv.2.2.2.2.2.1 _ rfl))
    · refine dw_g rfl ?_
      refine dg_s (pc' := 69) [.int x5] rfl (fun _ => rfl) rfl ?_
      refine dg_s (pc' := 71) [.int x6, .int x5] rfl (fun _ => rfl) rfl ?_
      refine dg_s (pc' := 72) [.int (x5 + x6)] rfl (fun _ => rfl) rfl ?_
      refine dg_s (pc' := 73) [.int (2 : Int32), .int (x5 + x6)] rfl (fun _ => rfl) rfl ?_
      refine dg_s (pc' := 74) [.int ((x5 + x6) / (2 : Int32))] rfl (fun _ => rfl) rfl ?_
      refine dg_L (pc' := 76) [(7, .int ((x5 + x6) / (2 : Int32))), (0, .ref x0), (1, .int x1), (2, .int x2), (3, .int x3), (4, .int x4), (5, .int x5), (6, .int x6)] [] rfl (fun _ => rfl) rfl ?_
      refine dg_s (pc' := 77) [.ref x0] rfl (fun _ => rfl) rfl ?_
      refine dg_s (pc' := 79) [.int ((x5 + x6) / (2 : Int32)), .ref x0] rfl (fun _ => rfl) rfl ?_
      refine dg_s (pc' := 81) [.int x4, .int ((x5 + x6) / (2 : Int32)), .ref x0] rfl (fun _ => rfl) rfl ?_
      refine dw_b (fun t => Φ (Option.bind t (dc_bk (d_X10_beat_l58s x0 x1 x2 x3 x4)))) (pc' := 84) (fun q1 => [.int q1.1]) (fun q1 => q1.2) rfl (fun _ => rfl) (fun q1 => ?_)
      refine dw_g rfl ?_
      refine dw_if (fun t => Φ (Option.bind t (dc_bk (d_X10_beat_l58s x0 x1 x2 x3 x4)))) ((Int32.toInt q1.1) = 0) [] 94 87 rfl (fun _ => rfl) (fun c1 => ?_) (fun c1 => ?_)
      · refine dw_g rfl ?_
        refine dg_s (pc' := 96) [.int ((x5 + x6) / (2 : Int32))] rfl (fun _ => rfl) rfl ?_
        refine dg_L (pc' := 98) [(6, .int ((x5 + x6) / (2 : Int32))), (7, .int ((x5 + x6) / (2 : Int32))), (0, .ref x0), (1, .int x1), (2, .int x2), (3, .int x3), (4, .int x4), (5, .int x5)] [] rfl (fun _ => rfl) rfl ?_
        refine dw_s (pc' := 58) [] rfl (fun _ => rfl) ?_
        exact dw_j rfl (fun lv1 hv => ih x5 ((x5 + x6) / (2 : Int32)) q1.2 lv1 (hv.1 _ rfl) (hv.2.1 _ rfl) (hv.2.2.1 _ rfl) (hv.2.2.2.1 _ rfl) (hv.2.2.2.2.1 _ rfl) (hv.2.2.2.2.2.1 _ rfl) (hv.2.2.2.2.2.2.1 _ rfl))
      · refine dw_g rfl ?_
        refine dg_s (pc' := 89) [.int ((x5 + x6) / (2 : Int32))] rfl (fun _ => rfl) rfl ?_
        refine dg_L (pc' := 91) [(5, .int ((x5 + x6) / (2 : Int32))), (7, .int ((x5 + x6) / (2 : Int32))), (0, .ref x0), (1, .int x1), (2, .int x2), (3, .int x3), (4, .int x4), (6, .int x6)] [] rfl (fun _ => rfl) rfl ?_
        refine dg_s (pc' := 98) [] rfl (fun _ => rfl) rfl ?_
        refine dw_s (pc' := 58) [] rfl (fun _ => rfl) ?_
        exact dw_j rfl (fun lv1 hv => ih ((x5 + x6) / (2 : Int32)) x6 q1.2 lv1 (hv.1 _ rfl) (hv.2.1 _ rfl) (hv.2.2.1 _ rfl) (hv.2.2.2.1 _ rfl) (hv.2.2.2.2.1 _ rfl) (hv.2.2.2.2.2.1 _ rfl) (hv.2.2.2.2.2.2.1 _ rfl))
noncomputable def d_X10_beat_l43b (x0 : Nat) (x1 : Int32) (x2 : Int32) (x3 : Int32) (x4 : Int32) (m : dc_M) : Option ((Int32 × Int32 × Int32 × dc_M) ⊕ (Int32 × dc_M)) :=
  (if 16 < (Int32.toInt x4) then ((d_X10_beat_b124 x0 x1 x2 x3 m).map (fun z => Sum.inr (z))) else (d_X10_beat_l58 x0 x1 x2 x3 x4 (0 : Int32) (321 : Int32) m))
noncomputable def d_X10_beat_l43s (x0 : Nat) (x1 : Int32) : (Int32 × Int32 × Int32 × dc_M) → Option ((Int32 × Int32 × Int32 × dc_M) ⊕ (Int32 × dc_M)) := fun s => d_X10_beat_l43b x0 x1 s.1 s.2.1 s.2.2.1 s.2.2.2
noncomputable def d_X10_beat_l43 (x0 : Nat) (x1 : Int32) (x2 : Int32) (x3 : Int32) (x4 : Int32) (m : dc_M) : Option (Int32 × dc_M) := dc_lp (d_X10_beat_l43s x0 x1) (x2, x3, x4, m)
set_option maxHeartbeats 8000000 in
theorem k_X10_beat_l43 {u : Nat} {Φ : (Option (Int32 × dc_M)) → Option Value → dc_M → Prop} (x0 : Nat) (x1 : Int32) (kR : ∀ (v : Int32) (m : dc_M), Φ (some ((v, m))) (some (.int v)) m) : ∀ (N : Nat), ∀ (x2 : Int32) (x3 : Int32) (x4 : Int32) (m : dc_M) (lv : ab_L), ab_lk lv 0 = some (.ref x0) → ab_lk lv 1 = some (.int x1) → ab_lk lv 2 = some (.int x2) → ab_lk lv 3 = some (.int x3) → ab_lk lv 4 = some (.int x4) → dc_pv u N ab_M_X10_beat 43 lv [] m (Φ (d_X10_beat_l43 x0 x1 x2 x3 x4 m)) := by
  intro N
  induction N with
  | zero => intros; exact dc_pv_zero
  | succ N ih =>
    intro x2 x3 x4 m lv f0 f1 f2 f3 f4
    refine dc_ok (C := C_X10_beat) (S := S_X10_beat) CO_X10_beat 400 43 [(0, .ref x0), (1, .int x1), (2, .int x2), (3, .int x3), (4, .int x4)] lv [] m (dc_sub_cons f0 (dc_sub_cons f1 (dc_sub_cons f2 (dc_sub_cons f3 (dc_sub_cons f4 (dc_sub_nil)))))) ?_
    unfold d_X10_beat_l43
    rw [dc_lp_eq]
    show (fun t x => dc_lf u N ab_M_X10_beat (Φ (Option.bind t (dc_bk (d_X10_beat_l43s x0 x1)))) x) (d_X10_beat_l43b x0 x1 x2 x3 x4 m) _
    dsimp only
    unfold d_X10_beat_l43b
    refine dg_s (pc' := 45) [.int x4] rfl (fun _ => rfl) rfl ?_
    refine dg_s (pc' := 47) [.int (16 : Int32), .int x4] rfl (fun _ => rfl) rfl ?_
    refine dw_if (fun t => Φ (Option.bind t (dc_bk (d_X10_beat_l43s x0 x1)))) (16 < (Int32.toInt x4)) [] 124 50 rfl (fun _ => rfl) (fun c0 => ?_) (fun c0 => ?_)
    · exact dw_j rfl (fun lv1 hv => k_X10_beat_b124 (Φ := (fun t => Φ (Option.bind (t.map (fun z => Sum.inr (z))) (dc_bk (d_X10_beat_l43s x0 x1))))) x0 x1 x2 x3 m (fun _a _b => kR _a _b)  (hv.1 _ rfl) (hv.2.1 _ rfl) (hv.2.2.1 _ rfl) (hv.2.2.2.1 _ rfl))
    · refine dw_g rfl ?_
      refine dg_s (pc' := 51) [.int (0 : Int32)] rfl (fun _ => rfl) rfl ?_
      refine dg_L (pc' := 53) [(5, .int (0 : Int32)), (0, .ref x0), (1, .int x1), (2, .int x2), (3, .int x3), (4, .int x4)] [] rfl (fun _ => rfl) rfl ?_
      refine dg_s (pc' := 56) [.int (321 : Int32)] rfl (fun _ => rfl) rfl ?_
      refine dw_L (pc' := 58) [(6, .int (321 : Int32)), (5, .int (0 : Int32)), (0, .ref x0), (1, .int x1), (2, .int x2), (3, .int x3), (4, .int x4)] [] rfl (fun _ => rfl) ?_
      exact dw_j rfl (fun lv1 hv => k_X10_beat_l58 (Φ := (fun t => Φ (Option.bind t (dc_bk (d_X10_beat_l43s x0 x1))))) x0 x1 x2 x3 x4 (fun _a _b => kR _a _b) N ih (0 : Int32) (321 : Int32) m lv1 (hv.1 _ rfl) (hv.2.1 _ rfl) (hv.2.2.1 _ rfl) (hv.2.2.2.1 _ rfl) (hv.2.2.2.2.1 _ rfl) (hv.2.2.2.2.2.1 _ rfl) (hv.2.2.2.2.2.2.1 _ rfl))
noncomputable def d_X10_beat (x0 : Nat) (x1 : Int32) (m : dc_M) : Option (Int32 × dc_M) :=
  (if ¬ (Int32.toInt (d_X10_in (Int32.toInt64 x1) (0 : Int64) (2 : Int64) m)) = 0 then ((d_X10_isGraph x0 m).bind (fun q1 => (if ¬ (Int32.toInt q1.1) = 0 then ((d_X10_hasRing x0 (0 : Int32) (1 : Int32) q1.2).bind (fun q2 => (if ¬ (Int32.toInt q2.1) = 0 then (d_X10_beat_l43 x0 x1 (0 : Int32) (1 : Int32) (1 : Int32) q2.2) else some (((-4 : Int32), q2.2))))) else some (((-2 : Int32), q1.2))))) else some (((-1 : Int32), m)))
set_option maxHeartbeats 8000000 in
theorem k_X10_beat {u : Nat} {N : Nat} {Φ : (Option (Int32 × dc_M)) → Option Value → dc_M → Prop} (x0 : Nat) (x1 : Int32) (m : dc_M) (kR : ∀ (v : Int32) (m : dc_M), Φ (some ((v, m))) (some (.int v)) m)  {lv : ab_L} (f0 : ab_lk lv 0 = some (.ref x0)) (f1 : ab_lk lv 1 = some (.int x1)) : dc_pv u N ab_M_X10_beat 0 lv [] m (Φ (d_X10_beat x0 x1 m)) := by
  refine dc_pv.mono (dc_ok (C := C_X10_beat) (S := S_X10_beat) CO_X10_beat 400 0 [(0, .ref x0), (1, .int x1)] lv [] m (dc_sub_cons f0 (dc_sub_cons f1 (dc_sub_nil))) ?_) (Nat.le_succ N)
  unfold d_X10_beat
  refine dg_s (pc' := 1) [.int x1] rfl (fun _ => rfl) rfl ?_
  refine dg_s (pc' := 2) [.long (Int32.toInt64 x1)] rfl (fun _ => rfl) rfl ?_
  refine dg_s (pc' := 3) [.long (0 : Int64), .long (Int32.toInt64 x1)] rfl (fun _ => rfl) rfl ?_
  refine dg_s (pc' := 6) [.long (2 : Int64), .long (0 : Int64), .long (Int32.toInt64 x1)] rfl (fun _ => rfl) rfl ?_
  refine dg_s (pc' := 9) [.int (d_X10_in (Int32.toInt64 x1) (0 : Int64) (2 : Int64) m)] rfl (fun _ => rfl) rfl ?_
  refine dw_if (fun t => Φ t) (¬ (Int32.toInt (d_X10_in (Int32.toInt64 x1) (0 : Int64) (2 : Int64) m)) = 0) [] 14 12 rfl (fun _ => rfl) (fun c0 => ?_) (fun c0 => ?_)
  · refine dw_g rfl ?_
    refine dg_s (pc' := 15) [.ref x0] rfl (fun _ => rfl) rfl ?_
    refine dw_b (fun t => Φ t) (pc' := 18) (fun q1 => [.int q1.1]) (fun q1 => q1.2) rfl (fun _ => rfl) (fun q1 => ?_)
    refine dw_g rfl ?_
    refine dw_if (fun t => Φ t) (¬ (Int32.toInt q1.1) = 0) [] 24 21 rfl (fun _ => rfl) (fun c1 => ?_) (fun c1 => ?_)
    · refine dw_g rfl ?_
      refine dg_s (pc' := 25) [.ref x0] rfl (fun _ => rfl) rfl ?_
      refine dg_s (pc' := 26) [.int (0 : Int32), .ref x0] rfl (fun _ => rfl) rfl ?_
      refine dg_s (pc' := 27) [.int (1 : Int32), .int (0 : Int32), .ref x0] rfl (fun _ => rfl) rfl ?_
      refine dw_b (fun t => Φ t) (pc' := 30) (fun q2 => [.int q2.1]) (fun q2 => q2.2) rfl (fun _ => rfl) (fun q2 => ?_)
      refine dw_g rfl ?_
      refine dw_if (fun t => Φ t) (¬ (Int32.toInt q2.1) = 0) [] 36 33 rfl (fun _ => rfl) (fun c2 => ?_) (fun c2 => ?_)
      · refine dw_g rfl ?_
        refine dg_s (pc' := 37) [.int (0 : Int32)] rfl (fun _ => rfl) rfl ?_
        refine dg_L (pc' := 38) [(2, .int (0 : Int32)), (0, .ref x0), (1, .int x1)] [] rfl (fun _ => rfl) rfl ?_
        refine dg_s (pc' := 39) [.int (1 : Int32)] rfl (fun _ => rfl) rfl ?_
        refine dg_L (pc' := 40) [(3, .int (1 : Int32)), (2, .int (0 : Int32)), (0, .ref x0), (1, .int x1)] [] rfl (fun _ => rfl) rfl ?_
        refine dg_s (pc' := 41) [.int (1 : Int32)] rfl (fun _ => rfl) rfl ?_
        refine dw_L (pc' := 43) [(4, .int (1 : Int32)), (3, .int (1 : Int32)), (2, .int (0 : Int32)), (0, .ref x0), (1, .int x1)] [] rfl (fun _ => rfl) ?_
        exact dw_j rfl (fun lv1 hv => k_X10_beat_l43 (Φ := (fun t => Φ t)) x0 x1 (fun _a _b => kR _a _b) N  (0 : Int32) (1 : Int32) (1 : Int32) q2.2 lv1 (hv.1 _ rfl) (hv.2.1 _ rfl) (hv.2.2.1 _ rfl) (hv.2.2.2.1 _ rfl) (hv.2.2.2.2.1 _ rfl))
      · refine dw_g rfl ?_
        refine dg_s (pc' := 35) [.int (-4 : Int32)] rfl (fun _ => rfl) rfl ?_
        exact dw_r (some (.inl (some (.int (-4 : Int32)), q2.2))) rfl (fun _ => rfl) (kR _ _)
    · refine dw_g rfl ?_
      refine dg_s (pc' := 23) [.int (-2 : Int32)] rfl (fun _ => rfl) rfl ?_
      exact dw_r (some (.inl (some (.int (-2 : Int32)), q1.2))) rfl (fun _ => rfl) (kR _ _)
  · refine dw_g rfl ?_
    refine dg_s (pc' := 13) [.int (-1 : Int32)] rfl (fun _ => rfl) rfl ?_
    exact dw_r (some (.inl (some (.int (-1 : Int32)), m))) rfl (fun _ => rfl) (kR _ _)
noncomputable def H_X10_beat : dc_H := fun As m k => match As with
  | [.ref x0, .int x1] => (d_X10_beat x0 x1 m).bind (fun q => k (some (.int q.1)) q.2)
  | _ => dc_kz
theorem H_X10_beat_ok {u : Nat} : dc_cok u 218 H_X10_beat := fun M' hG N As m k P hz hP => by
  obtain rfl : ab_M_X10_beat = M' := Option.some.inj hG
  unfold H_X10_beat at hP
  split at hP
  · rename_i x0 x1
    exact dc_pv.imp (k_X10_beat (Φ := fun (t : Option (Int32 × dc_M)) r m' => P (t.bind (fun q => k (some (.int q.1)) q.2)) → P (k r m')) x0 x1 m (fun _ _ h => h) rfl rfl) (fun r m' h => h hP)
  · exact absurd hP hz
def C_X5_beginOf : List (Nat × dc_H) := [(230, H_J9_max_7cf53)]
theorem CO_X5_beginOf {u : Nat} : dc_CO u C_X5_beginOf := dc_CO_cons H_J9_max_7cf53_ok (dc_CO_nil)
def S_X5_beginOf : List (Nat × List Nat) := [(18, [0, 1, 2, 3, 4]), (88, [0, 1, 2, 3, 4])]
noncomputable def d_X5_beginOf_b88 (x0 : Nat) (x1 : Nat) (x2 : Int32) (x3 : Int32) (x4 : Int32) (s0 : Int32) (m : dc_M) : Option ((Int32 × Int32) ⊕ Int32) :=
  (if ¬ (Int32.toInt s0) = (-1) then some (Sum.inl ((d_J9_max_7cf53 x3 s0 m), (x4 + (1 : Int32)))) else some (Sum.inl ((-1 : Int32), (x4 + (1 : Int32)))))
set_option maxHeartbeats 8000000 in
theorem k_X5_beginOf_b88 {u : Nat} {N : Nat} {Φ : (Option ((Int32 × Int32) ⊕ Int32)) → Option Value → dc_M → Prop} (x0 : Nat) (x1 : Nat) (x2 : Int32) (x3 : Int32) (x4 : Int32) (s0 : Int32) (m : dc_M) (kR : ∀ (v : Int32), Φ (some (Sum.inr (v))) (some (.int v)) m) (k18 : ∀ (x3 : Int32) (x4 : Int32) (lv : ab_L), ab_lk lv 0 = some (.ref x0) → ab_lk lv 1 = some (.ref x1) → ab_lk lv 2 = some (.int x2) → ab_lk lv 3 = some (.int x3) → ab_lk lv 4 = some (.int x4) →  dc_pv u N ab_M_X5_beginOf 18 lv [] m (Φ (some (Sum.inl (x3, x4))))) {lv : ab_L} (f0 : ab_lk lv 0 = some (.ref x0)) (f1 : ab_lk lv 1 = some (.ref x1)) (f2 : ab_lk lv 2 = some (.int x2)) (f3 : ab_lk lv 3 = some (.int x3)) (f4 : ab_lk lv 4 = some (.int x4)) : dc_pv u N ab_M_X5_beginOf 88 lv [.int s0] m (Φ (d_X5_beginOf_b88 x0 x1 x2 x3 x4 s0 m)) := by
  refine dc_pv.mono (dc_ok (C := C_X5_beginOf) (S := S_X5_beginOf) CO_X5_beginOf 400 88 [(0, .ref x0), (1, .ref x1), (2, .int x2), (3, .int x3), (4, .int x4)] lv [.int s0] m (dc_sub_cons f0 (dc_sub_cons f1 (dc_sub_cons f2 (dc_sub_cons f3 (dc_sub_cons f4 (dc_sub_nil)))))) ?_) (Nat.le_succ N)
  unfold d_X5_beginOf_b88
  refine dg_L (pc' := 90) [(5, .int s0), (0, .ref x0), (1, .ref x1), (2, .int x2), (3, .int x3), (4, .int x4)] [] rfl (fun _ => rfl) rfl ?_
  refine dg_s (pc' := 92) [.int s0] rfl (fun _ => rfl) rfl ?_
  refine dg_s (pc' := 93) [.int (-1 : Int32), .int s0] rfl (fun _ => rfl) rfl ?_
  refine dw_if (fun t => Φ t) (¬ (Int32.toInt s0) = (-1)) [] 100 96 rfl (fun _ => rfl) (fun c0 => ?_) (fun c0 => ?_)
  · refine dw_g rfl ?_
    refine dg_s (pc' := 101) [.int x3] rfl (fun _ => rfl) rfl ?_
    refine dg_s (pc' := 103) [.int s0, .int x3] rfl (fun _ => rfl) rfl ?_
    refine dg_s (pc' := 106) [.int (d_J9_max_7cf53 x3 s0 m)] rfl (fun _ => rfl) rfl ?_
    refine dg_L (pc' := 107) [(3, .int (d_J9_max_7cf53 x3 s0 m)), (5, .int s0), (0, .ref x0), (1, .ref x1), (2, .int x2), (4, .int x4)] [] rfl (fun _ => rfl) rfl ?_
    refine dg_L (pc' := 110) [(4, .int (x4 + (1 : Int32))), (3, .int (d_J9_max_7cf53 x3 s0 m)), (5, .int s0), (0, .ref x0), (1, .ref x1), (2, .int x2)] [] rfl (fun _ => rfl) rfl ?_
    refine dw_s (pc' := 18) [] rfl (fun _ => rfl) ?_
    exact dw_j rfl (fun lv1 hv => k18 (d_J9_max_7cf53 x3 s0 m) (x4 + (1 : Int32)) lv1 (hv.1 _ rfl) (hv.2.1 _ rfl) (hv.2.2.1 _ rfl) (hv.2.2.2.1 _ rfl) (hv.2.2.2.2.1 _ rfl))
  · refine dw_g rfl ?_
    refine dg_s (pc' := 97) [.int (-1 : Int32)] rfl (fun _ => rfl) rfl ?_
    refine dg_s (pc' := 106) [.int (-1 : Int32)] rfl (fun _ => rfl) rfl ?_
    refine dg_L (pc' := 107) [(3, .int (-1 : Int32)), (5, .int s0), (0, .ref x0), (1, .ref x1), (2, .int x2), (4, .int x4)] [] rfl (fun _ => rfl) rfl ?_
    refine dg_L (pc' := 110) [(4, .int (x4 + (1 : Int32))), (3, .int (-1 : Int32)), (5, .int s0), (0, .ref x0), (1, .ref x1), (2, .int x2)] [] rfl (fun _ => rfl) rfl ?_
    refine dw_s (pc' := 18) [] rfl (fun _ => rfl) ?_
    exact dw_j rfl (fun lv1 hv => k18 (-1 : Int32) (x4 + (1 : Int32)) lv1 (hv.1 _ rfl) (hv.2.1 _ rfl) (hv.2.2.1 _ rfl) (hv.2.2.2.1 _ rfl) (hv.2.2.2.2.1 _ rfl))
noncomputable def d_X5_beginOf_l18b (x0 : Nat) (x1 : Nat) (x2 : Int32) (x3 : Int32) (x4 : Int32) (m : dc_M) : Option ((Int32 × Int32) ⊕ Int32) :=
  (if (Int32.toInt (m.1 x1 2)) ≤ (Int32.toInt x4) then some (Sum.inr (x3)) else (if (Int32.toInt x3) = (-1) then some (Sum.inr (x3)) else (if ¬ (Int32.toInt (((m.1 (x1 + 6) (Int32.toNatClampNeg x2)) >>> (x4 &&& 31)) &&& (1 : Int32))) = 0 then (if (Int32.toInt (((m.1 x1 13) >>> (x4 &&& 31)) &&& (1 : Int32))) = 0 then (d_X5_beginOf_b88 x0 x1 x2 x3 x4 (m.1 (m.2.2.1 x0 8) (Int32.toNatClampNeg (m.1 (x0 + 1) (Int32.toNatClampNeg x4)))) m) else (d_X5_beginOf_b88 x0 x1 x2 x3 x4 (m.1 (m.2.2.1 x0 9) (Int32.toNatClampNeg (m.1 (x0 + 1) (Int32.toNatClampNeg x4)))) m)) else some (Sum.inl (x3, (x4 + (1 : Int32)))))))
noncomputable def d_X5_beginOf_l18s (x0 : Nat) (x1 : Nat) (x2 : Int32) (m : dc_M) : (Int32 × Int32) → Option ((Int32 × Int32) ⊕ Int32) := fun s => d_X5_beginOf_l18b x0 x1 x2 s.1 s.2 m
noncomputable def d_X5_beginOf_l18 (x0 : Nat) (x1 : Nat) (x2 : Int32) (x3 : Int32) (x4 : Int32) (m : dc_M) : Option Int32 := dc_lp (d_X5_beginOf_l18s x0 x1 x2 m) (x3, x4)
set_option maxHeartbeats 8000000 in
theorem k_X5_beginOf_l18 {u : Nat} {Φ : (Option Int32) → Option Value → dc_M → Prop} (x0 : Nat) (x1 : Nat) (x2 : Int32) (m : dc_M) (kR : ∀ (v : Int32), Φ (some (v)) (some (.int v)) m) : ∀ (N : Nat), ∀ (x3 : Int32) (x4 : Int32) (lv : ab_L), ab_lk lv 0 = some (.ref x0) → ab_lk lv 1 = some (.ref x1) → ab_lk lv 2 = some (.int x2) → ab_lk lv 3 = some (.int x3) → ab_lk lv 4 = some (.int x4) → dc_pv u N ab_M_X5_beginOf 18 lv [] m (Φ (d_X5_beginOf_l18 x0 x1 x2 x3 x4 m)) := by
  intro N
  induction N with
  | zero => intros; exact dc_pv_zero
  | succ N ih =>
    intro x3 x4 lv f0 f1 f2 f3 f4
    refine dc_ok (C := C_X5_beginOf) (S := S_X5_beginOf) CO_X5_beginOf 400 18 [(0, .ref x0), (1, .ref x1), (2, .int x2), (3, .int x3), (4, .int x4)] lv [] m (dc_sub_cons f0 (dc_sub_cons f1 (dc_sub_cons f2 (dc_sub_cons f3 (dc_sub_cons f4 (dc_sub_nil)))))) ?_
    unfold d_X5_beginOf_l18
    rw [dc_lp_eq]
    show (fun t x => dc_lf u N ab_M_X5_beginOf (Φ (Option.bind t (dc_bk (d_X5_beginOf_l18s x0 x1 x2 m)))) x) (d_X5_beginOf_l18b x0 x1 x2 x3 x4 m) _
    dsimp only
    unfold d_X5_beginOf_l18b
    refine dg_s (pc' := 20) [.int x4] rfl (fun _ => rfl) rfl ?_
    refine dg_s (pc' := 21) [.ref x1, .int x4] rfl (fun _ => rfl) rfl ?_
    refine dg_s (pc' := 24) [.int (m.1 x1 2), .int x4] rfl (fun _ => rfl) rfl ?_
    refine dw_if (fun t => Φ (Option.bind t (dc_bk (d_X5_beginOf_l18s x0 x1 x2 m)))) ((Int32.toInt (m.1 x1 2)) ≤ (Int32.toInt x4)) [] 113 27 rfl (fun _ => rfl) (fun c0 => ?_) (fun c0 => ?_)
    · refine dw_g rfl ?_
      refine dg_s (pc' := 114) [.int x3] rfl (fun _ => rfl) rfl ?_
      exact dw_r (some (.inl (some (.int x3), m))) rfl (fun _ => rfl) (kR _)
    · refine dw_g rfl ?_
      refine dg_s (pc' := 28) [.int x3] rfl (fun _ => rfl) rfl ?_
      refine dg_s (pc' := 29) [.int (-1 : Int32), .int x3] rfl (fun _ => rfl) rfl ?_
      refine dw_if (fun t => Φ (Option.bind t (dc_bk (d_X5_beginOf_l18s x0 x1 x2 m)))) ((Int32.toInt x3) = (-1)) [] 113 32 rfl (fun _ => rfl) (fun c1 => ?_) (fun c1 => ?_)
      · refine dw_g rfl ?_
        refine dg_s (pc' := 114) [.int x3] rfl (fun _ => rfl) rfl ?_
        exact dw_r (some (.inl (some (.int x3), m))) rfl (fun _ => rfl) (kR _)
      · refine dw_g rfl ?_
        refine dg_s (pc' := 33) [.ref x1] rfl (fun _ => rfl) rfl ?_
        refine dg_s (pc' := 36) [.ref (x1 + 6)] rfl (fun _ => rfl) rfl ?_
        refine dg_s (pc' := 37) [.int x2, .ref (x1 + 6)] rfl (fun _ => rfl) rfl ?_
        refine dg_s (pc' := 38) [.int (m.1 (x1 + 6) (Int32.toNatClampNeg x2))] rfl (fun _ => rfl) rfl ?_
        refine dg_s (pc' := 40) [.int x4, .int (m.1 (x1 + 6) (Int32.toNatClampNeg x2))] rfl (fun _ => rfl) rfl ?_
        refine dg_s (pc' := 41) [.int ((m.1 (x1 + 6) (Int32.toNatClampNeg x2)) >>> (x4 &&& 31))] rfl (fun _ => rfl) rfl ?_
        refine dg_s (pc' := 42) [.int (1 : Int32), .int ((m.1 (x1 + 6) (Int32.toNatClampNeg x2)) >>> (x4 &&& 31))] rfl (fun _ => rfl) rfl ?_
        refine dg_s (pc' := 43) [.int (((m.1 (x1 + 6) (Int32.toNatClampNeg x2)) >>> (x4 &&& 31)) &&& (1 : Int32))] rfl (fun _ => rfl) rfl ?_
        refine dw_if (fun t => Φ (Option.bind t (dc_bk (d_X5_beginOf_l18s x0 x1 x2 m)))) (¬ (Int32.toInt (((m.1 (x1 + 6) (Int32.toNatClampNeg x2)) >>> (x4 &&& 31)) &&& (1 : Int32))) = 0) [] 49 46 rfl (fun _ => rfl) (fun c2 => ?_) (fun c2 => ?_)
        · refine dw_g rfl ?_
          refine dg_s (pc' := 50) [.ref x1] rfl (fun _ => rfl) rfl ?_
          refine dg_s (pc' := 53) [.int (m.1 x1 13)] rfl (fun _ => rfl) rfl ?_
          refine dg_s (pc' := 55) [.int x4, .int (m.1 x1 13)] rfl (fun _ => rfl) rfl ?_
          refine dg_s (pc' := 56) [.int ((m.1 x1 13) >>> (x4 &&& 31))] rfl (fun _ => rfl) rfl ?_
          refine dg_s (pc' := 57) [.int (1 : Int32), .int ((m.1 x1 13) >>> (x4 &&& 31))] rfl (fun _ => rfl) rfl ?_
          refine dg_s (pc' := 58) [.int (((m.1 x1 13) >>> (x4 &&& 31)) &&& (1 : Int32))] rfl (fun _ => rfl) rfl ?_
          refine dw_if (fun t => Φ (Option.bind t (dc_bk (d_X5_beginOf_l18s x0 x1 x2 m)))) ((Int32.toInt (((m.1 x1 13) >>> (x4 &&& 31)) &&& (1 : Int32))) = 0) [] 76 61 rfl (fun _ => rfl) (fun c3 => ?_) (fun c3 => ?_)
          · refine dw_g rfl ?_
            refine dg_s (pc' := 77) [.ref x0] rfl (fun _ => rfl) rfl ?_
            refine dg_s (pc' := 80) [.ref (m.2.2.1 x0 8)] rfl (fun _ => rfl) rfl ?_
            refine dg_s (pc' := 81) [.ref x0, .ref (m.2.2.1 x0 8)] rfl (fun _ => rfl) rfl ?_
            refine dg_s (pc' := 84) [.ref (x0 + 1), .ref (m.2.2.1 x0 8)] rfl (fun _ => rfl) rfl ?_
            refine dg_s (pc' := 86) [.int x4, .ref (x0 + 1), .ref (m.2.2.1 x0 8)] rfl (fun _ => rfl) rfl ?_
            refine dg_s (pc' := 87) [.int (m.1 (x0 + 1) (Int32.toNatClampNeg x4)), .ref (m.2.2.1 x0 8)] rfl (fun _ => rfl) rfl ?_
            refine dw_s (pc' := 88) [.int (m.1 (m.2.2.1 x0 8) (Int32.toNatClampNeg (m.1 (x0 + 1) (Int32.toNatClampNeg x4))))] rfl (fun _ => rfl) ?_
            exact dw_j rfl (fun lv1 hv => k_X5_beginOf_b88 (Φ := (fun t => Φ (Option.bind t (dc_bk (d_X5_beginOf_l18s x0 x1 x2 m))))) x0 x1 x2 x3 x4 (m.1 (m.2.2.1 x0 8) (Int32.toNatClampNeg (m.1 (x0 + 1) (Int32.toNatClampNeg x4)))) m (fun _a  => kR _a) ih (hv.1 _ rfl) (hv.2.1 _ rfl) (hv.2.2.1 _ rfl) (hv.2.2.2.1 _ rfl) (hv.2.2.2.2.1 _ rfl))
          · refine dw_g rfl ?_
            refine dg_s (pc' := 62) [.ref x0] rfl (fun _ => rfl) rfl ?_
            refine dg_s (pc' := 65) [.ref (m.2.2.1 x0 9)] rfl (fun _ => rfl) rfl ?_
            refine dg_s (pc' := 66) [.ref x0, .ref (m.2.2.1 x0 9)] rfl (fun _ => rfl) rfl ?_
            refine dg_s (pc' := 69) [.ref (x0 + 1), .ref (m.2.2.1 x0 9)] rfl (fun _ => rfl) rfl ?_
            refine dg_s (pc' := 71) [.int x4, .ref (x0 + 1), .ref (m.2.2.1 x0 9)] rfl (fun _ => rfl) rfl ?_
            refine dg_s (pc' := 72) [.int (m.1 (x0 + 1) (Int32.toNatClampNeg x4)), .ref (m.2.2.1 x0 9)] rfl (fun _ => rfl) rfl ?_
            refine dg_s (pc' := 73) [.int (m.1 (m.2.2.1 x0 9) (Int32.toNatClampNeg (m.1 (x0 + 1) (Int32.toNatClampNeg x4))))] rfl (fun _ => rfl) rfl ?_
            refine dw_s (pc' := 88) [.int (m.1 (m.2.2.1 x0 9) (Int32.toNatClampNeg (m.1 (x0 + 1) (Int32.toNatClampNeg x4))))] rfl (fun _ => rfl) ?_
            exact dw_j rfl (fun lv1 hv => k_X5_beginOf_b88 (Φ := (fun t => Φ (Option.bind t (dc_bk (d_X5_beginOf_l18s x0 x1 x2 m))))) x0 x1 x2 x3 x4 (m.1 (m.2.2.1 x0 9) (Int32.toNatClampNeg (m.1 (x0 + 1) (Int32.toNatClampNeg x4)))) m (fun _a  => kR _a) ih (hv.1 _ rfl) (hv.2.1 _ rfl) (hv.2.2.1 _ rfl) (hv.2.2.2.1 _ rfl) (hv.2.2.2.2.1 _ rfl))
        · refine dw_g rfl ?_
          refine dg_s (pc' := 107) [] rfl (fun _ => rfl) rfl ?_
          refine dg_L (pc' := 110) [(4, .int (x4 + (1 : Int32))), (0, .ref x0), (1, .ref x1), (2, .int x2), (3, .int x3)] [] rfl (fun _ => rfl) rfl ?_
          refine dw_s (pc' := 18) [] rfl (fun _ => rfl) ?_
          exact dw_j rfl (fun lv1 hv => ih x3 (x4 + (1 : Int32)) lv1 (hv.1 _ rfl) (hv.2.1 _ rfl) (hv.2.2.1 _ rfl) (hv.2.2.2.1 _ rfl) (hv.2.2.2.2.1 _ rfl))
noncomputable def d_X5_beginOf (x0 : Nat) (x1 : Nat) (x2 : Int32) (m : dc_M) : Option Int32 :=
  (if ¬ (Int32.toInt (m.1 (x1 + 6) (Int32.toNatClampNeg x2))) = 0 then (d_X5_beginOf_l18 x0 x1 x2 (0 : Int32) (0 : Int32) m) else (d_X5_beginOf_l18 x0 x1 x2 (-1 : Int32) (0 : Int32) m))
set_option maxHeartbeats 8000000 in
theorem k_X5_beginOf {u : Nat} {N : Nat} {Φ : (Option Int32) → Option Value → dc_M → Prop} (x0 : Nat) (x1 : Nat) (x2 : Int32) (m : dc_M) (kR : ∀ (v : Int32), Φ (some (v)) (some (.int v)) m)  {lv : ab_L} (f0 : ab_lk lv 0 = some (.ref x0)) (f1 : ab_lk lv 1 = some (.ref x1)) (f2 : ab_lk lv 2 = some (.int x2)) : dc_pv u N ab_M_X5_beginOf 0 lv [] m (Φ (d_X5_beginOf x0 x1 x2 m)) := by
  refine dc_pv.mono (dc_ok (C := C_X5_beginOf) (S := S_X5_beginOf) CO_X5_beginOf 400 0 [(0, .ref x0), (1, .ref x1), (2, .int x2)] lv [] m (dc_sub_cons f0 (dc_sub_cons f1 (dc_sub_cons f2 (dc_sub_nil)))) ?_) (Nat.le_succ N)
  unfold d_X5_beginOf
  refine dg_s (pc' := 1) [.ref x1] rfl (fun _ => rfl) rfl ?_
  refine dg_s (pc' := 4) [.ref (x1 + 6)] rfl (fun _ => rfl) rfl ?_
  refine dg_s (pc' := 5) [.int x2, .ref (x1 + 6)] rfl (fun _ => rfl) rfl ?_
  refine dg_s (pc' := 6) [.int (m.1 (x1 + 6) (Int32.toNatClampNeg x2))] rfl (fun _ => rfl) rfl ?_
  refine dw_if (fun t => Φ t) (¬ (Int32.toInt (m.1 (x1 + 6) (Int32.toNatClampNeg x2))) = 0) [] 13 9 rfl (fun _ => rfl) (fun c0 => ?_) (fun c0 => ?_)
  · refine dw_g rfl ?_
    refine dg_s (pc' := 14) [.int (0 : Int32)] rfl (fun _ => rfl) rfl ?_
    refine dg_L (pc' := 15) [(3, .int (0 : Int32)), (0, .ref x0), (1, .ref x1), (2, .int x2)] [] rfl (fun _ => rfl) rfl ?_
    refine dg_s (pc' := 16) [.int (0 : Int32)] rfl (fun _ => rfl) rfl ?_
    refine dw_L (pc' := 18) [(4, .int (0 : Int32)), (3, .int (0 : Int32)), (0, .ref x0), (1, .ref x1), (2, .int x2)] [] rfl (fun _ => rfl) ?_
    exact dw_j rfl (fun lv1 hv => k_X5_beginOf_l18 (Φ := (fun t => Φ t)) x0 x1 x2 m (fun _a  => kR _a) N  (0 : Int32) (0 : Int32) lv1 (hv.1 _ rfl) (hv.2.1 _ rfl) (hv.2.2.1 _ rfl) (hv.2.2.2.1 _ rfl) (hv.2.2.2.2.1 _ rfl))
  · refine dw_g rfl ?_
    refine dg_s (pc' := 10) [.int (-1 : Int32)] rfl (fun _ => rfl) rfl ?_
    refine dg_s (pc' := 14) [.int (-1 : Int32)] rfl (fun _ => rfl) rfl ?_
    refine dg_L (pc' := 15) [(3, .int (-1 : Int32)), (0, .ref x0), (1, .ref x1), (2, .int x2)] [] rfl (fun _ => rfl) rfl ?_
    refine dg_s (pc' := 16) [.int (0 : Int32)] rfl (fun _ => rfl) rfl ?_
    refine dw_L (pc' := 18) [(4, .int (0 : Int32)), (3, .int (-1 : Int32)), (0, .ref x0), (1, .ref x1), (2, .int x2)] [] rfl (fun _ => rfl) ?_
    exact dw_j rfl (fun lv1 hv => k_X5_beginOf_l18 (Φ := (fun t => Φ t)) x0 x1 x2 m (fun _a  => kR _a) N  (-1 : Int32) (0 : Int32) lv1 (hv.1 _ rfl) (hv.2.1 _ rfl) (hv.2.2.1 _ rfl) (hv.2.2.2.1 _ rfl) (hv.2.2.2.2.1 _ rfl))
noncomputable def H_X5_beginOf : dc_H := fun As m k => match As with
  | [.ref x0, .ref x1, .int x2] => (d_X5_beginOf x0 x1 x2 m).bind (fun q => k (some (.int q)) m)
  | _ => dc_kz
theorem H_X5_beginOf_ok {u : Nat} : dc_cok u 74 H_X5_beginOf := fun M' hG N As m k P hz hP => by
  obtain rfl : ab_M_X5_beginOf = M' := Option.some.inj hG
  unfold H_X5_beginOf at hP
  split at hP
  · rename_i x0 x1 x2
    exact dc_pv.imp (k_X5_beginOf (Φ := fun (t : Option Int32) r m' => P (t.bind (fun q => k (some (.int q)) m)) → P (k r m')) x0 x1 x2 m (fun _  h => h) rfl rfl rfl) (fun r m' h => h hP)
  · exact absurd hP hz
noncomputable def C_X5_endOf : List (Nat × dc_H) := [(238, H_J7_fill_53178), (74, H_X5_beginOf), (68, H_X5_turnWays)]
theorem CO_X5_endOf {u : Nat} : dc_CO u C_X5_endOf := dc_CO_cons H_J7_fill_53178_ok (dc_CO_cons H_X5_beginOf_ok (dc_CO_cons H_X5_turnWays_ok (dc_CO_nil)))
def S_X5_endOf : List (Nat × List Nat) := [(11, [0, 1, 2, 3, 4]), (24, [0, 1, 2, 3, 4, 5]), (90, [0, 2])]
noncomputable def d_X5_endOf_b90 (x0 : Nat) (x2 : Int32) (m : dc_M) : Option (Int32 × dc_M) :=
  (if ¬ (Int32.toInt (m.1 (m.2.2.1 x0 8) (Int32.toNatClampNeg x2))) = (-1) then some (((m.1 (m.2.2.1 x0 8) (Int32.toNatClampNeg x2)), m)) else some (((-4 : Int32), m)))
set_option maxHeartbeats 8000000 in
theorem k_X5_endOf_b90 {u : Nat} {N : Nat} {Φ : (Option (Int32 × dc_M)) → Option Value → dc_M → Prop} (x0 : Nat) (x2 : Int32) (m : dc_M) (kR : ∀ (v : Int32) (m : dc_M), Φ (some ((v, m))) (some (.int v)) m)  {lv : ab_L} (f0 : ab_lk lv 0 = some (.ref x0)) (f2 : ab_lk lv 2 = some (.int x2)) : dc_pv u N ab_M_X5_endOf 90 lv [] m (Φ (d_X5_endOf_b90 x0 x2 m)) := by
  refine dc_pv.mono (dc_ok (C := C_X5_endOf) (S := S_X5_endOf) CO_X5_endOf 400 90 [(0, .ref x0), (2, .int x2)] lv [] m (dc_sub_cons f0 (dc_sub_cons f2 (dc_sub_nil))) ?_) (Nat.le_succ N)
  unfold d_X5_endOf_b90
  refine dg_s (pc' := 91) [.ref x0] rfl (fun _ => rfl) rfl ?_
  refine dg_s (pc' := 94) [.ref (m.2.2.1 x0 8)] rfl (fun _ => rfl) rfl ?_
  refine dg_s (pc' := 95) [.int x2, .ref (m.2.2.1 x0 8)] rfl (fun _ => rfl) rfl ?_
  refine dg_s (pc' := 96) [.int (m.1 (m.2.2.1 x0 8) (Int32.toNatClampNeg x2))] rfl (fun _ => rfl) rfl ?_
  refine dg_s (pc' := 97) [.int (-1 : Int32), .int (m.1 (m.2.2.1 x0 8) (Int32.toNatClampNeg x2))] rfl (fun _ => rfl) rfl ?_
  refine dw_if (fun t => Φ t) (¬ (Int32.toInt (m.1 (m.2.2.1 x0 8) (Int32.toNatClampNeg x2))) = (-1)) [] 105 100 rfl (fun _ => rfl) (fun c0 => ?_) (fun c0 => ?_)
  · refine dw_g rfl ?_
    refine dg_s (pc' := 106) [.ref x0] rfl (fun _ => rfl) rfl ?_
    refine dg_s (pc' := 109) [.ref (m.2.2.1 x0 8)] rfl (fun _ => rfl) rfl ?_
    refine dg_s (pc' := 110) [.int x2, .ref (m.2.2.1 x0 8)] rfl (fun _ => rfl) rfl ?_
    refine dg_s (pc' := 111) [.int (m.1 (m.2.2.1 x0 8) (Int32.toNatClampNeg x2))] rfl (fun _ => rfl) rfl ?_
    exact dw_r (some (.inl (some (.int (m.1 (m.2.2.1 x0 8) (Int32.toNatClampNeg x2))), m))) rfl (fun _ => rfl) (kR _ _)
  · refine dw_g rfl ?_
    refine dg_s (pc' := 102) [.int (-4 : Int32)] rfl (fun _ => rfl) rfl ?_
    refine dg_s (pc' := 111) [.int (-4 : Int32)] rfl (fun _ => rfl) rfl ?_
    exact dw_r (some (.inl (some (.int (-4 : Int32)), m))) rfl (fun _ => rfl) (kR _ _)
noncomputable def d_X5_endOf_l24b (x0 : Nat) (x1 : Nat) (x2 : Int32) (x3 : Int32) (x4 : Int32) (x5 : Int32) (m : dc_M) : Option ((Int32 × dc_M) ⊕ ((Int32 × dc_M) ⊕ (Int32 × dc_M))) :=
  (if (Int32.toInt (m.1 x0 7)) ≤ (Int32.toInt x5) then some (Sum.inr (Sum.inl ((x4 + (1 : Int32)), m))) else ((d_X5_beginOf x0 x1 (m.1 (x0 + 3) (Int32.toNatClampNeg x5)) m).bind (fun q1 => (if ¬ (Int32.toInt q1) = (-1) then some (Sum.inl ((x5 + (1 : Int32)), (dc_wi m (m.2.2.1 x0 8) (Int32.toNatClampNeg (m.1 (x0 + 3) (Int32.toNatClampNeg x5))) (q1 + (m.1 (x1 + 8) (Int32.toNatClampNeg (m.1 (x0 + 3) (Int32.toNatClampNeg x5)))))))) else some (Sum.inl ((x5 + (1 : Int32)), (dc_wi m (m.2.2.1 x0 8) (Int32.toNatClampNeg (m.1 (x0 + 3) (Int32.toNatClampNeg x5))) (-1 : Int32))))))))
noncomputable def d_X5_endOf_l24s (x0 : Nat) (x1 : Nat) (x2 : Int32) (x3 : Int32) (x4 : Int32) : (Int32 × dc_M) → Option ((Int32 × dc_M) ⊕ ((Int32 × dc_M) ⊕ (Int32 × dc_M))) := fun s => d_X5_endOf_l24b x0 x1 x2 x3 x4 s.1 s.2
noncomputable def d_X5_endOf_l24 (x0 : Nat) (x1 : Nat) (x2 : Int32) (x3 : Int32) (x4 : Int32) (x5 : Int32) (m : dc_M) : Option ((Int32 × dc_M) ⊕ (Int32 × dc_M)) := dc_lp (d_X5_endOf_l24s x0 x1 x2 x3 x4) (x5, m)
set_option maxHeartbeats 8000000 in
theorem k_X5_endOf_l24 {u : Nat} {Φ : (Option ((Int32 × dc_M) ⊕ (Int32 × dc_M))) → Option Value → dc_M → Prop} (x0 : Nat) (x1 : Nat) (x2 : Int32) (x3 : Int32) (x4 : Int32) (kR : ∀ (v : Int32) (m : dc_M), Φ (some (Sum.inr ((v, m)))) (some (.int v)) m) : ∀ (N : Nat), (∀ (x4 : Int32) (m : dc_M) (lv : ab_L), ab_lk lv 0 = some (.ref x0) → ab_lk lv 1 = some (.ref x1) → ab_lk lv 2 = some (.int x2) → ab_lk lv 3 = some (.int x3) → ab_lk lv 4 = some (.int x4) →  dc_pv u N ab_M_X5_endOf 11 lv [] m (Φ (some (Sum.inl (x4, m))))) → ∀ (x5 : Int32) (m : dc_M) (lv : ab_L), ab_lk lv 0 = some (.ref x0) → ab_lk lv 1 = some (.ref x1) → ab_lk lv 2 = some (.int x2) → ab_lk lv 3 = some (.int x3) → ab_lk lv 4 = some (.int x4) → ab_lk lv 5 = some (.int x5) → dc_pv u N ab_M_X5_endOf 24 lv [] m (Φ (d_X5_endOf_l24 x0 x1 x2 x3 x4 x5 m)) := by
  intro N
  induction N with
  | zero => intros; exact dc_pv_zero
  | succ N ih =>
    intro k11 x5 m lv f0 f1 f2 f3 f4 f5
    have k11 := fun a0 a1 a2 a3 a4 a5 a6 a7 => (k11 a0 a1 a2 a3 a4 a5 a6 a7).mono (Nat.le_succ N)
    have ih := ih k11
    refine dc_ok (C := C_X5_endOf) (S := S_X5_endOf) CO_X5_endOf 400 24 [(0, .ref x0), (1, .ref x1), (2, .int x2), (3, .int x3), (4, .int x4), (5, .int x5)] lv [] m (dc_sub_cons f0 (dc_sub_cons f1 (dc_sub_cons f2 (dc_sub_cons f3 (dc_sub_cons f4 (dc_sub_cons f5 (dc_sub_nil))))))) ?_
    unfold d_X5_endOf_l24
    rw [dc_lp_eq]
    show (fun t x => dc_lf u N ab_M_X5_endOf (Φ (Option.bind t (dc_bk (d_X5_endOf_l24s x0 x1 x2 x3 x4)))) x) (d_X5_endOf_l24b x0 x1 x2 x3 x4 x5 m) _
    dsimp only
    unfold d_X5_endOf_l24b
    refine dg_s (pc' := 26) [.int x5] rfl (fun _ => rfl) rfl ?_
    refine dg_s (pc' := 27) [.ref x0, .int x5] rfl (fun _ => rfl) rfl ?_
    refine dg_s (pc' := 30) [.int (m.1 x0 7), .int x5] rfl (fun _ => rfl) rfl ?_
    refine dw_if (fun t => Φ (Option.bind t (dc_bk (d_X5_endOf_l24s x0 x1 x2 x3 x4)))) ((Int32.toInt (m.1 x0 7)) ≤ (Int32.toInt x5)) [] 84 33 rfl (fun _ => rfl) (fun c0 => ?_) (fun c0 => ?_)
    · refine dw_g rfl ?_
      refine dg_L (pc' := 87) [(4, .int (x4 + (1 : Int32))), (0, .ref x0), (1, .ref x1), (2, .int x2), (3, .int x3), (5, .int x5)] [] rfl (fun _ => rfl) rfl ?_
      refine dw_s (pc' := 11) [] rfl (fun _ => rfl) ?_
      exact dw_j rfl (fun lv1 hv => k11 (x4 + (1 : Int32)) m lv1 (hv.1 _ rfl) (hv.2.1 _ rfl) (hv.2.2.1 _ rfl) (hv.2.2.2.1 _ rfl) (hv.2.2.2.2.1 _ rfl))
    · refine dw_g rfl ?_
      refine dg_s (pc' := 34) [.ref x0] rfl (fun _ => rfl) rfl ?_
      refine dg_s (pc' := 37) [.ref (x0 + 3)] rfl (fun _ => rfl) rfl ?_
      refine dg_s (pc' := 39) [.int x5, .ref (x0 + 3)] rfl (fun _ => rfl) rfl ?_
      refine dg_s (pc' := 40) [.int (m.1 (x0 + 3) (Int32.toNatClampNeg x5))] rfl (fun _ => rfl) rfl ?_
      refine dg_L (pc' := 42) [(6, .int (m.1 (x0 + 3) (Int32.toNatClampNeg x5))), (0, .ref x0), (1, .ref x1), (2, .int x2), (3, .int x3), (4, .int x4), (5, .int x5)] [] rfl (fun _ => rfl) rfl ?_
      refine dg_s (pc' := 43) [.ref x0] rfl (fun _ => rfl) rfl ?_
      refine dg_s (pc' := 44) [.ref x1, .ref x0] rfl (fun _ => rfl) rfl ?_
      refine dg_s (pc' := 46) [.int (m.1 (x0 + 3) (Int32.toNatClampNeg x5)), .ref x1, .ref x0] rfl (fun _ => rfl) rfl ?_
      refine dw_b (fun t => Φ (Option.bind t (dc_bk (d_X5_endOf_l24s x0 x1 x2 x3 x4)))) (pc' := 49) (fun q1 => [.int q1]) (fun q1 => m) rfl (fun _ => rfl) (fun q1 => ?_)
      refine dw_g rfl ?_
      refine dg_L (pc' := 51) [(7, .int q1), (6, .int (m.1 (x0 + 3) (Int32.toNatClampNeg x5))), (0, .ref x0), (1, .ref x1), (2, .int x2), (3, .int x3), (4, .int x4), (5, .int x5)] [] rfl (fun _ => rfl) rfl ?_
      refine dg_s (pc' := 52) [.ref x0] rfl (fun _ => rfl) rfl ?_
      refine dg_s (pc' := 55) [.ref (m.2.2.1 x0 8)] rfl (fun _ => rfl) rfl ?_
      refine dg_s (pc' := 57) [.int (m.1 (x0 + 3) (Int32.toNatClampNeg x5)), .ref (m.2.2.1 x0 8)] rfl (fun _ => rfl) rfl ?_
      refine dg_s (pc' := 59) [.int q1, .int (m.1 (x0 + 3) (Int32.toNatClampNeg x5)), .ref (m.2.2.1 x0 8)] rfl (fun _ => rfl) rfl ?_
      refine dg_s (pc' := 60) [.int (-1 : Int32), .int q1, .int (m.1 (x0 + 3) (Int32.toNatClampNeg x5)), .ref (m.2.2.1 x0 8)] rfl (fun _ => rfl) rfl ?_
      refine dw_if (fun t => Φ (Option.bind t (dc_bk (d_X5_endOf_l24s x0 x1 x2 x3 x4)))) (¬ (Int32.toInt q1) = (-1)) [.int (m.1 (x0 + 3) (Int32.toNatClampNeg x5)), .ref (m.2.2.1 x0 8)] 67 63 rfl (fun _ => rfl) (fun c1 => ?_) (fun c1 => ?_)
      · refine dw_g rfl ?_
        refine dg_s (pc' := 69) [.int q1, .int (m.1 (x0 + 3) (Int32.toNatClampNeg x5)), .ref (m.2.2.1 x0 8)] rfl (fun _ => rfl) rfl ?_
        refine dg_s (pc' := 70) [.ref x1, .int q1, .int (m.1 (x0 + 3) (Int32.toNatClampNeg x5)), .ref (m.2.2.1 x0 8)] rfl (fun _ => rfl) rfl ?_
        refine dg_s (pc' := 73) [.ref (x1 + 8), .int q1, .int (m.1 (x0 + 3) (Int32.toNatClampNeg x5)), .ref (m.2.2.1 x0 8)] rfl (fun _ => rfl) rfl ?_
        refine dg_s (pc' := 75) [.int (m.1 (x0 + 3) (Int32.toNatClampNeg x5)), .ref (x1 + 8), .int q1, .int (m.1 (x0 + 3) (Int32.toNatClampNeg x5)), .ref (m.2.2.1 x0 8)] rfl (fun _ => rfl) rfl ?_
        refine dg_s (pc' := 76) [.int (m.1 (x1 + 8) (Int32.toNatClampNeg (m.1 (x0 + 3) (Int32.toNatClampNeg x5)))), .int q1, .int (m.1 (x0 + 3) (Int32.toNatClampNeg x5)), .ref (m.2.2.1 x0 8)] rfl (fun _ => rfl) rfl ?_
        refine dg_s (pc' := 77) [.int (q1 + (m.1 (x1 + 8) (Int32.toNatClampNeg (m.1 (x0 + 3) (Int32.toNatClampNeg x5))))), .int (m.1 (x0 + 3) (Int32.toNatClampNeg x5)), .ref (m.2.2.1 x0 8)] rfl (fun _ => rfl) rfl ?_
        refine dg_m (pc' := 78) (dc_wi m (m.2.2.1 x0 8) (Int32.toNatClampNeg (m.1 (x0 + 3) (Int32.toNatClampNeg x5))) (q1 + (m.1 (x1 + 8) (Int32.toNatClampNeg (m.1 (x0 + 3) (Int32.toNatClampNeg x5)))))) [] rfl (fun _ => rfl) rfl ?_
        refine dg_L (pc' := 81) [(5, .int (x5 + (1 : Int32))), (7, .int q1), (6, .int (m.1 (x0 + 3) (Int32.toNatClampNeg x5))), (0, .ref x0), (1, .ref x1), (2, .int x2), (3, .int x3), (4, .int x4)] [] rfl (fun _ => rfl) rfl ?_
        refine dw_s (pc' := 24) [] rfl (fun _ => rfl) ?_
        exact dw_j rfl (fun lv1 hv => ih (x5 + (1 : Int32)) (dc_wi m (m.2.2.1 x0 8) (Int32.toNatClampNeg (m.1 (x0 + 3) (Int32.toNatClampNeg x5))) (q1 + (m.1 (x1 + 8) (Int32.toNatClampNeg (m.1 (x0 + 3) (Int32.toNatClampNeg x5)))))) lv1 (hv.1 _ rfl) (hv.2.1 _ rfl) (hv.2.2.1 _ rfl) (hv.2.2.2.1 _ rfl) (hv.2.2.2.2.1 _ rfl) (hv.2.2.2.2.2.1 _ rfl))
      · refine dw_g rfl ?_
        refine dg_s (pc' := 64) [.int (-1 : Int32), .int (m.1 (x0 + 3) (Int32.toNatClampNeg x5)), .ref (m.2.2.1 x0 8)] rfl (fun _ => rfl) rfl ?_
        refine dg_s (pc' := 77) [.int (-1 : Int32), .int (m.1 (x0 + 3) (Int32.toNatClampNeg x5)), .ref (m.2.2.1 x0 8)] rfl (fun _ => rfl) rfl ?_
        refine dg_m (pc' := 78) (dc_wi m (m.2.2.1 x0 8) (Int32.toNatClampNeg (m.1 (x0 + 3) (Int32.toNatClampNeg x5))) (-1 : Int32)) [] rfl (fun _ => rfl) rfl ?_
        refine dg_L (pc' := 81) [(5, .int (x5 + (1 : Int32))), (7, .int q1), (6, .int (m.1 (x0 + 3) (Int32.toNatClampNeg x5))), (0, .ref x0), (1, .ref x1), (2, .int x2), (3, .int x3), (4, .int x4)] [] rfl (fun _ => rfl) rfl ?_
        refine dw_s (pc' := 24) [] rfl (fun _ => rfl) ?_
        exact dw_j rfl (fun lv1 hv => ih (x5 + (1 : Int32)) (dc_wi m (m.2.2.1 x0 8) (Int32.toNatClampNeg (m.1 (x0 + 3) (Int32.toNatClampNeg x5))) (-1 : Int32)) lv1 (hv.1 _ rfl) (hv.2.1 _ rfl) (hv.2.2.1 _ rfl) (hv.2.2.2.1 _ rfl) (hv.2.2.2.2.1 _ rfl) (hv.2.2.2.2.2.1 _ rfl))
noncomputable def d_X5_endOf_l11b (x0 : Nat) (x1 : Nat) (x2 : Int32) (x3 : Int32) (x4 : Int32) (m : dc_M) : Option ((Int32 × dc_M) ⊕ (Int32 × dc_M)) :=
  (if (Int32.toInt x3) < (Int32.toInt x4) then ((d_X5_endOf_b90 x0 x2 m).map (fun z => Sum.inr (z))) else (dc_let (d_X5_turnWays x0 m) (fun q1 => (d_X5_endOf_l24 x0 x1 x2 x3 x4 (0 : Int32) q1))))
noncomputable def d_X5_endOf_l11s (x0 : Nat) (x1 : Nat) (x2 : Int32) (x3 : Int32) : (Int32 × dc_M) → Option ((Int32 × dc_M) ⊕ (Int32 × dc_M)) := fun s => d_X5_endOf_l11b x0 x1 x2 x3 s.1 s.2
noncomputable def d_X5_endOf_l11 (x0 : Nat) (x1 : Nat) (x2 : Int32) (x3 : Int32) (x4 : Int32) (m : dc_M) : Option (Int32 × dc_M) := dc_lp (d_X5_endOf_l11s x0 x1 x2 x3) (x4, m)
set_option maxHeartbeats 8000000 in
theorem k_X5_endOf_l11 {u : Nat} {Φ : (Option (Int32 × dc_M)) → Option Value → dc_M → Prop} (x0 : Nat) (x1 : Nat) (x2 : Int32) (x3 : Int32) (kR : ∀ (v : Int32) (m : dc_M), Φ (some ((v, m))) (some (.int v)) m) : ∀ (N : Nat), ∀ (x4 : Int32) (m : dc_M) (lv : ab_L), ab_lk lv 0 = some (.ref x0) → ab_lk lv 1 = some (.ref x1) → ab_lk lv 2 = some (.int x2) → ab_lk lv 3 = some (.int x3) → ab_lk lv 4 = some (.int x4) → dc_pv u N ab_M_X5_endOf 11 lv [] m (Φ (d_X5_endOf_l11 x0 x1 x2 x3 x4 m)) := by
  intro N
  induction N with
  | zero => intros; exact dc_pv_zero
  | succ N ih =>
    intro x4 m lv f0 f1 f2 f3 f4
    refine dc_ok (C := C_X5_endOf) (S := S_X5_endOf) CO_X5_endOf 400 11 [(0, .ref x0), (1, .ref x1), (2, .int x2), (3, .int x3), (4, .int x4)] lv [] m (dc_sub_cons f0 (dc_sub_cons f1 (dc_sub_cons f2 (dc_sub_cons f3 (dc_sub_cons f4 (dc_sub_nil)))))) ?_
    unfold d_X5_endOf_l11
    rw [dc_lp_eq]
    show (fun t x => dc_lf u N ab_M_X5_endOf (Φ (Option.bind t (dc_bk (d_X5_endOf_l11s x0 x1 x2 x3)))) x) (d_X5_endOf_l11b x0 x1 x2 x3 x4 m) _
    dsimp only
    unfold d_X5_endOf_l11b
    refine dg_s (pc' := 13) [.int x4] rfl (fun _ => rfl) rfl ?_
    refine dg_s (pc' := 14) [.int x3, .int x4] rfl (fun _ => rfl) rfl ?_
    refine dw_if (fun t => Φ (Option.bind t (dc_bk (d_X5_endOf_l11s x0 x1 x2 x3)))) ((Int32.toInt x3) < (Int32.toInt x4)) [] 90 17 rfl (fun _ => rfl) (fun c0 => ?_) (fun c0 => ?_)
    · exact dw_j rfl (fun lv1 hv => k_X5_endOf_b90 (Φ := (fun t => Φ (Option.bind (t.map (fun z => Sum.inr (z))) (dc_bk (d_X5_endOf_l11s x0 x1 x2 x3))))) x0 x2 m (fun _a _b => kR _a _b)  (hv.1 _ rfl) (hv.2.1 _ rfl))
    · refine dw_g rfl ?_
      refine dg_s (pc' := 18) [.ref x0] rfl (fun _ => rfl) rfl ?_
      refine dw_l (fun t => Φ (Option.bind t (dc_bk (d_X5_endOf_l11s x0 x1 x2 x3)))) (pc' := 21) (fun q1 => []) (fun q1 => q1) rfl (fun _ => rfl) (fun q1 => ?_)
      refine dw_g rfl ?_
      refine dg_s (pc' := 22) [.int (0 : Int32)] rfl (fun _ => rfl) rfl ?_
      refine dw_L (pc' := 24) [(5, .int (0 : Int32)), (0, .ref x0), (1, .ref x1), (2, .int x2), (3, .int x3), (4, .int x4)] [] rfl (fun _ => rfl) ?_
      exact dw_j rfl (fun lv1 hv => k_X5_endOf_l24 (Φ := (fun t => Φ (Option.bind t (dc_bk (d_X5_endOf_l11s x0 x1 x2 x3))))) x0 x1 x2 x3 x4 (fun _a _b => kR _a _b) N ih (0 : Int32) q1 lv1 (hv.1 _ rfl) (hv.2.1 _ rfl) (hv.2.2.1 _ rfl) (hv.2.2.2.1 _ rfl) (hv.2.2.2.2.1 _ rfl) (hv.2.2.2.2.2.1 _ rfl))
noncomputable def d_X5_endOf (x0 : Nat) (x1 : Nat) (x2 : Int32) (x3 : Int32) (m : dc_M) : Option (Int32 × dc_M) :=
  ((d_J7_fill_53178 (m.2.2.1 x0 8) (0 : Int32) m).bind (fun q1 => (d_X5_endOf_l11 x0 x1 x2 x3 (1 : Int32) q1)))
set_option maxHeartbeats 8000000 in
theorem k_X5_endOf {u : Nat} {N : Nat} {Φ : (Option (Int32 × dc_M)) → Option Value → dc_M → Prop} (x0 : Nat) (x1 : Nat) (x2 : Int32) (x3 : Int32) (m : dc_M) (kR : ∀ (v : Int32) (m : dc_M), Φ (some ((v, m))) (some (.int v)) m)  {lv : ab_L} (f0 : ab_lk lv 0 = some (.ref x0)) (f1 : ab_lk lv 1 = some (.ref x1)) (f2 : ab_lk lv 2 = some (.int x2)) (f3 : ab_lk lv 3 = some (.int x3)) : dc_pv u N ab_M_X5_endOf 0 lv [] m (Φ (d_X5_endOf x0 x1 x2 x3 m)) := by
  refine dc_pv.mono (dc_ok (C := C_X5_endOf) (S := S_X5_endOf) CO_X5_endOf 400 0 [(0, .ref x0), (1, .ref x1), (2, .int x2), (3, .int x3)] lv [] m (dc_sub_cons f0 (dc_sub_cons f1 (dc_sub_cons f2 (dc_sub_cons f3 (dc_sub_nil))))) ?_) (Nat.le_succ N)
  unfold d_X5_endOf
  refine dg_s (pc' := 1) [.ref x0] rfl (fun _ => rfl) rfl ?_
  refine dg_s (pc' := 4) [.ref (m.2.2.1 x0 8)] rfl (fun _ => rfl) rfl ?_
  refine dg_s (pc' := 5) [.int (0 : Int32), .ref (m.2.2.1 x0 8)] rfl (fun _ => rfl) rfl ?_
  refine dw_b (fun t => Φ t) (pc' := 8) (fun q1 => []) (fun q1 => q1) rfl (fun _ => rfl) (fun q1 => ?_)
  refine dw_g rfl ?_
  refine dg_s (pc' := 9) [.int (1 : Int32)] rfl (fun _ => rfl) rfl ?_
  refine dw_L (pc' := 11) [(4, .int (1 : Int32)), (0, .ref x0), (1, .ref x1), (2, .int x2), (3, .int x3)] [] rfl (fun _ => rfl) ?_
  exact dw_j rfl (fun lv1 hv => k_X5_endOf_l11 (Φ := (fun t => Φ t)) x0 x1 x2 x3 (fun _a _b => kR _a _b) N  (1 : Int32) q1 lv1 (hv.1 _ rfl) (hv.2.1 _ rfl) (hv.2.2.1 _ rfl) (hv.2.2.2.1 _ rfl) (hv.2.2.2.2.1 _ rfl))
noncomputable def H_X5_endOf : dc_H := fun As m k => match As with
  | [.ref x0, .ref x1, .int x2, .int x3] => (d_X5_endOf x0 x1 x2 x3 m).bind (fun q => k (some (.int q.1)) q.2)
  | _ => dc_kz
theorem H_X5_endOf_ok {u : Nat} : dc_cok u 73 H_X5_endOf := fun M' hG N As m k P hz hP => by
  obtain rfl : ab_M_X5_endOf = M' := Option.some.inj hG
  unfold H_X5_endOf at hP
  split at hP
  · rename_i x0 x1 x2 x3
    exact dc_pv.imp (k_X5_endOf (Φ := fun (t : Option (Int32 × dc_M)) r m' => P (t.bind (fun q => k (some (.int q.1)) q.2)) → P (k r m')) x0 x1 x2 x3 m (fun _ _ h => h) rfl rfl rfl rfl) (fun r m' h => h hP)
  · exact absurd hP hz
noncomputable def C_X9_time : List (Nat × dc_H) := [(26, H_X3_hasEvent), (73, H_X5_endOf), (139, H_X9_findRings)]
theorem CO_X9_time {u : Nat} : dc_CO u C_X9_time := dc_CO_cons H_X3_hasEvent_ok (dc_CO_cons H_X5_endOf_ok (dc_CO_cons H_X9_findRings_ok (dc_CO_nil)))
def S_X9_time : List (Nat × List Nat) := []
noncomputable def d_X9_time (x0 : Nat) (x1 : Int32) (x2 : Int32) (m : dc_M) : Option (Int32 × dc_M) :=
  (if (Int32.toInt (d_X3_hasEvent (m.2.2.1 x0 7) x1 m)) = 0 then some (((-1 : Int32), m)) else (if (Int32.toInt x2) < 1 then some (((-1 : Int32), m)) else (if (Int32.toInt x2) ≤ 50 then ((d_X9_findRings x0 m).bind (fun q1 => (if (Int32.toInt (q1.1 (x0 + 29) 0)) = 0 then some (((-2 : Int32), q1)) else ((d_X5_endOf (x0 + 29) (q1.2.2.1 x0 7) x1 x2 q1).bind (fun q2 => some ((q2.1, q2.2))))))) else some (((-1 : Int32), m)))))
set_option maxHeartbeats 8000000 in
theorem k_X9_time {u : Nat} {N : Nat} {Φ : (Option (Int32 × dc_M)) → Option Value → dc_M → Prop} (x0 : Nat) (x1 : Int32) (x2 : Int32) (m : dc_M) (kR : ∀ (v : Int32) (m : dc_M), Φ (some ((v, m))) (some (.int v)) m)  {lv : ab_L} (f0 : ab_lk lv 0 = some (.ref x0)) (f1 : ab_lk lv 1 = some (.int x1)) (f2 : ab_lk lv 2 = some (.int x2)) : dc_pv u N ab_M_X9_time 0 lv [] m (Φ (d_X9_time x0 x1 x2 m)) := by
  refine dc_pv.mono (dc_ok (C := C_X9_time) (S := S_X9_time) CO_X9_time 400 0 [(0, .ref x0), (1, .int x1), (2, .int x2)] lv [] m (dc_sub_cons f0 (dc_sub_cons f1 (dc_sub_cons f2 (dc_sub_nil)))) ?_) (Nat.le_succ N)
  unfold d_X9_time
  refine dg_s (pc' := 1) [.ref x0] rfl (fun _ => rfl) rfl ?_
  refine dg_s (pc' := 4) [.ref (m.2.2.1 x0 7)] rfl (fun _ => rfl) rfl ?_
  refine dg_s (pc' := 5) [.int x1, .ref (m.2.2.1 x0 7)] rfl (fun _ => rfl) rfl ?_
  refine dg_s (pc' := 8) [.int (d_X3_hasEvent (m.2.2.1 x0 7) x1 m)] rfl (fun _ => rfl) rfl ?_
  refine dw_if (fun t => Φ t) ((Int32.toInt (d_X3_hasEvent (m.2.2.1 x0 7) x1 m)) = 0) [] 22 11 rfl (fun _ => rfl) (fun c0 => ?_) (fun c0 => ?_)
  · refine dw_g rfl ?_
    refine dg_s (pc' := 23) [.int (-1 : Int32)] rfl (fun _ => rfl) rfl ?_
    exact dw_r (some (.inl (some (.int (-1 : Int32)), m))) rfl (fun _ => rfl) (kR _ _)
  · refine dw_g rfl ?_
    refine dg_s (pc' := 12) [.int x2] rfl (fun _ => rfl) rfl ?_
    refine dg_s (pc' := 13) [.int (1 : Int32), .int x2] rfl (fun _ => rfl) rfl ?_
    refine dw_if (fun t => Φ t) ((Int32.toInt x2) < 1) [] 22 16 rfl (fun _ => rfl) (fun c1 => ?_) (fun c1 => ?_)
    · refine dw_g rfl ?_
      refine dg_s (pc' := 23) [.int (-1 : Int32)] rfl (fun _ => rfl) rfl ?_
      exact dw_r (some (.inl (some (.int (-1 : Int32)), m))) rfl (fun _ => rfl) (kR _ _)
    · refine dw_g rfl ?_
      refine dg_s (pc' := 17) [.int x2] rfl (fun _ => rfl) rfl ?_
      refine dg_s (pc' := 19) [.int (50 : Int32), .int x2] rfl (fun _ => rfl) rfl ?_
      refine dw_if (fun t => Φ t) ((Int32.toInt x2) ≤ 50) [] 24 22 rfl (fun _ => rfl) (fun c2 => ?_) (fun c2 => ?_)
      · refine dw_g rfl ?_
        refine dg_s (pc' := 25) [.ref x0] rfl (fun _ => rfl) rfl ?_
        refine dw_b (fun t => Φ t) (pc' := 28) (fun q1 => []) (fun q1 => q1) rfl (fun _ => rfl) (fun q1 => ?_)
        refine dw_g rfl ?_
        refine dg_s (pc' := 29) [.ref x0] rfl (fun _ => rfl) rfl ?_
        refine dg_s (pc' := 32) [.ref (x0 + 29)] rfl (fun _ => rfl) rfl ?_
        refine dg_s (pc' := 35) [.int (q1.1 (x0 + 29) 0)] rfl (fun _ => rfl) rfl ?_
        refine dw_if (fun t => Φ t) ((Int32.toInt (q1.1 (x0 + 29) 0)) = 0) [] 54 38 rfl (fun _ => rfl) (fun c3 => ?_) (fun c3 => ?_)
        · refine dw_g rfl ?_
          refine dg_s (pc' := 56) [.int (-2 : Int32)] rfl (fun _ => rfl) rfl ?_
          exact dw_r (some (.inl (some (.int (-2 : Int32)), q1))) rfl (fun _ => rfl) (kR _ _)
        · refine dw_g rfl ?_
          refine dg_s (pc' := 39) [.ref x0] rfl (fun _ => rfl) rfl ?_
          refine dg_s (pc' := 42) [.ref (x0 + 29)] rfl (fun _ => rfl) rfl ?_
          refine dg_s (pc' := 43) [.ref x0, .ref (x0 + 29)] rfl (fun _ => rfl) rfl ?_
          refine dg_s (pc' := 46) [.ref (q1.2.2.1 x0 7), .ref (x0 + 29)] rfl (fun _ => rfl) rfl ?_
          refine dg_s (pc' := 47) [.int x1, .ref (q1.2.2.1 x0 7), .ref (x0 + 29)] rfl (fun _ => rfl) rfl ?_
          refine dg_s (pc' := 48) [.int x2, .int x1, .ref (q1.2.2.1 x0 7), .ref (x0 + 29)] rfl (fun _ => rfl) rfl ?_
          refine dw_b (fun t => Φ t) (pc' := 51) (fun q2 => [.int q2.1]) (fun q2 => q2.2) rfl (fun _ => rfl) (fun q2 => ?_)
          refine dw_g rfl ?_
          refine dg_s (pc' := 56) [.int q2.1] rfl (fun _ => rfl) rfl ?_
          exact dw_r (some (.inl (some (.int q2.1), q2.2))) rfl (fun _ => rfl) (kR _ _)
      · refine dw_g rfl ?_
        refine dg_s (pc' := 23) [.int (-1 : Int32)] rfl (fun _ => rfl) rfl ?_
        exact dw_r (some (.inl (some (.int (-1 : Int32)), m))) rfl (fun _ => rfl) (kR _ _)
noncomputable def H_X9_time : dc_H := fun As m k => match As with
  | [.ref x0, .int x1, .int x2] => (d_X9_time x0 x1 x2 m).bind (fun q => k (some (.int q.1)) q.2)
  | _ => dc_kz
theorem H_X9_time_ok {u : Nat} : dc_cok u 123 H_X9_time := fun M' hG N As m k P hz hP => by
  obtain rfl : ab_M_X9_time = M' := Option.some.inj hG
  unfold H_X9_time at hP
  split at hP
  · rename_i x0 x1 x2
    exact dc_pv.imp (k_X9_time (Φ := fun (t : Option (Int32 × dc_M)) r m' => P (t.bind (fun q => k (some (.int q.1)) q.2)) → P (k r m')) x0 x1 x2 m (fun _ _ h => h) rfl rfl rfl) (fun r m' h => h hP)
  · exact absurd hP hz
def C_X10_layEnds : List (Nat × dc_H) := []
theorem CO_X10_layEnds {u : Nat} : dc_CO u C_X10_layEnds := dc_CO_nil
def S_X10_layEnds : List (Nat × List Nat) := [(2, [0, 1, 2]), (51, [0, 1, 2]), (61, [0, 1, 2, 3]), (92, [0, 1, 2, 3, 4, 5, 6, 7]), (130, [0, 1, 2, 3, 4, 5, 6, 7]), (173, [0, 1, 2, 3, 4, 5, 6, 7]), (192, [0, 1, 2, 3, 4, 6, 7, 9]), (210, [0, 1, 2, 3, 4, 5, 7, 9]), (234, [0, 1, 2, 3, 4, 5, 6])]
noncomputable def d_X10_layEnds_b234 (x0 : Nat) (x1 : Int32) (x2 : Int32) (x3 : Int32) (x4 : Int32) (x5 : Int32) (x6 : Int32) (m : dc_M) : Option ((Int32 × dc_M) ⊕ ((Int32 × dc_M) ⊕ dc_M)) :=
  (if (Int32.toInt x6) = 0 then (if (Int32.toInt x5) = 0 then some (Sum.inl ((x3 + (1 : Int32)), (dc_wi m (x0 + 31) (Int32.toNatClampNeg x3) (-2 : Int32)))) else some (Sum.inl ((x3 + (1 : Int32)), (dc_wi m (x0 + 31) (Int32.toNatClampNeg x3) (x4 + (m.1 (x0 + 8) (Int32.toNatClampNeg x3))))))) else some (Sum.inl ((x3 + (1 : Int32)), (dc_wi m (x0 + 31) (Int32.toNatClampNeg x3) (-1 : Int32)))))
set_option maxHeartbeats 8000000 in
theorem k_X10_layEnds_b234 {u : Nat} {N : Nat} {Φ : (Option ((Int32 × dc_M) ⊕ ((Int32 × dc_M) ⊕ dc_M))) → Option Value → dc_M → Prop} (x0 : Nat) (x1 : Int32) (x2 : Int32) (x3 : Int32) (x4 : Int32) (x5 : Int32) (x6 : Int32) (m : dc_M) (kR : ∀  (m : dc_M), Φ (some (Sum.inr (Sum.inr (m)))) (none) m) (k61 : ∀ (x3 : Int32) (m : dc_M) (lv : ab_L), ab_lk lv 0 = some (.ref x0) → ab_lk lv 1 = some (.int x1) → ab_lk lv 2 = some (.int x2) → ab_lk lv 3 = some (.int x3) →  dc_pv u N ab_M_X10_layEnds 61 lv [] m (Φ (some (Sum.inl (x3, m))))) (k51 : ∀ (x2 : Int32) (m : dc_M) (lv : ab_L), ab_lk lv 0 = some (.ref x0) → ab_lk lv 1 = some (.int x1) → ab_lk lv 2 = some (.int x2) →  dc_pv u N ab_M_X10_layEnds 51 lv [] m (Φ (some (Sum.inr (Sum.inl (x2, m)))))) {lv : ab_L} (f0 : ab_lk lv 0 = some (.ref x0)) (f1 : ab_lk lv 1 = some (.int x1)) (f2 : ab_lk lv 2 = some (.int x2)) (f3 : ab_lk lv 3 = some (.int x3)) (f4 : ab_lk lv 4 = some (.int x4)) (f5 : ab_lk lv 5 = some (.int x5)) (f6 : ab_lk lv 6 = some (.int x6)) : dc_pv u N ab_M_X10_layEnds 234 lv [] m (Φ (d_X10_layEnds_b234 x0 x1 x2 x3 x4 x5 x6 m)) := by
  refine dc_pv.mono (dc_ok (C := C_X10_layEnds) (S := S_X10_layEnds) CO_X10_layEnds 400 234 [(0, .ref x0), (1, .int x1), (2, .int x2), (3, .int x3), (4, .int x4), (5, .int x5), (6, .int x6)] lv [] m (dc_sub_cons f0 (dc_sub_cons f1 (dc_sub_cons f2 (dc_sub_cons f3 (dc_sub_cons f4 (dc_sub_cons f5 (dc_sub_cons f6 (dc_sub_nil)))))))) ?_) (Nat.le_succ N)
  unfold d_X10_layEnds_b234
  refine dg_s (pc' := 235) [.ref x0] rfl (fun _ => rfl) rfl ?_
  refine dg_s (pc' := 238) [.ref (x0 + 31)] rfl (fun _ => rfl) rfl ?_
  refine dg_s (pc' := 239) [.int x3, .ref (x0 + 31)] rfl (fun _ => rfl) rfl ?_
  refine dg_s (pc' := 241) [.int x6, .int x3, .ref (x0 + 31)] rfl (fun _ => rfl) rfl ?_
  refine dw_if (fun t => Φ t) ((Int32.toInt x6) = 0) [.int x3, .ref (x0 + 31)] 248 244 rfl (fun _ => rfl) (fun c0 => ?_) (fun c0 => ?_)
  · refine dw_g rfl ?_
    refine dg_s (pc' := 250) [.int x5, .int x3, .ref (x0 + 31)] rfl (fun _ => rfl) rfl ?_
    refine dw_if (fun t => Φ t) ((Int32.toInt x5) = 0) [.int x3, .ref (x0 + 31)] 265 253 rfl (fun _ => rfl) (fun c1 => ?_) (fun c1 => ?_)
    · refine dw_g rfl ?_
      refine dg_s (pc' := 267) [.int (-2 : Int32), .int x3, .ref (x0 + 31)] rfl (fun _ => rfl) rfl ?_
      refine dg_m (pc' := 268) (dc_wi m (x0 + 31) (Int32.toNatClampNeg x3) (-2 : Int32)) [] rfl (fun _ => rfl) rfl ?_
      refine dg_L (pc' := 271) [(3, .int (x3 + (1 : Int32))), (0, .ref x0), (1, .int x1), (2, .int x2), (4, .int x4), (5, .int x5), (6, .int x6)] [] rfl (fun _ => rfl) rfl ?_
      refine dw_s (pc' := 61) [] rfl (fun _ => rfl) ?_
      exact dw_j rfl (fun lv1 hv => k61 (x3 + (1 : Int32)) (dc_wi m (x0 + 31) (Int32.toNatClampNeg x3) (-2 : Int32)) lv1 (hv.1 _ rfl) (hv.2.1 _ rfl) (hv.2.2.1 _ rfl) (hv.2.2.2.1 _ rfl))
    · refine dw_g rfl ?_
      refine dg_s (pc' := 255) [.int x4, .int x3, .ref (x0 + 31)] rfl (fun _ => rfl) rfl ?_
      refine dg_s (pc' := 256) [.ref x0, .int x4, .int x3, .ref (x0 + 31)] rfl (fun _ => rfl) rfl ?_
      refine dg_s (pc' := 259) [.ref (x0 + 8), .int x4, .int x3, .ref (x0 + 31)] rfl (fun _ => rfl) rfl ?_
      refine dg_s (pc' := 260) [.int x3, .ref (x0 + 8), .int x4, .int x3, .ref (x0 + 31)] rfl (fun _ => rfl) rfl ?_
      refine dg_s (pc' := 261) [.int (m.1 (x0 + 8) (Int32.toNatClampNeg x3)), .int x4, .int x3, .ref (x0 + 31)] rfl (fun _ => rfl) rfl ?_
      refine dg_s (pc' := 262) [.int (x4 + (m.1 (x0 + 8) (Int32.toNatClampNeg x3))), .int x3, .ref (x0 + 31)] rfl (fun _ => rfl) rfl ?_
      refine dg_s (pc' := 267) [.int (x4 + (m.1 (x0 + 8) (Int32.toNatClampNeg x3))), .int x3, .ref (x0 + 31)] rfl (fun _ => rfl) rfl ?_
      refine dg_m (pc' := 268) (dc_wi m (x0 + 31) (Int32.toNatClampNeg x3) (x4 + (m.1 (x0 + 8) (Int32.toNatClampNeg x3)))) [] rfl (fun _ => rfl) rfl ?_
      refine dg_L (pc' := 271) [(3, .int (x3 + (1 : Int32))), (0, .ref x0), (1, .int x1), (2, .int x2), (4, .int x4), (5, .int x5), (6, .int x6)] [] rfl (fun _ => rfl) rfl ?_
      refine dw_s (pc' := 61) [] rfl (fun _ => rfl) ?_
      exact dw_j rfl (fun lv1 hv => k61 (x3 + (1 : Int32)) (dc_wi m (x0 + 31) (Int32.toNatClampNeg x3) (x4 + (m.1 (x0 + 8) (Int32.toNatClampNeg x3)))) lv1 (hv.1 _ rfl) (hv.2.1 _ rfl) (hv.2.2.1 _ rfl) (hv.2.2.2.1 _ rfl))
  · refine dw_g rfl ?_
    refine dg_s (pc' := 245) [.int (-1 : Int32), .int x3, .ref (x0 + 31)] rfl (fun _ => rfl) rfl ?_
    refine dg_s (pc' := 267) [.int (-1 : Int32), .int x3, .ref (x0 + 31)] rfl (fun _ => rfl) rfl ?_
    refine dg_m (pc' := 268) (dc_wi m (x0 + 31) (Int32.toNatClampNeg x3) (-1 : Int32)) [] rfl (fun _ => rfl) rfl ?_
    refine dg_L (pc' := 271) [(3, .int (x3 + (1 : Int32))), (0, .ref x0), (1, .int x1), (2, .int x2), (4, .int x4), (5, .int x5), (6, .int x6)] [] rfl (fun _ => rfl) rfl ?_
    refine dw_s (pc' := 61) [] rfl (fun _ => rfl) ?_
    exact dw_j rfl (fun lv1 hv => k61 (x3 + (1 : Int32)) (dc_wi m (x0 + 31) (Int32.toNatClampNeg x3) (-1 : Int32)) lv1 (hv.1 _ rfl) (hv.2.1 _ rfl) (hv.2.2.1 _ rfl) (hv.2.2.2.1 _ rfl))
noncomputable def d_X10_layEnds_b210 (x0 : Nat) (x1 : Int32) (x2 : Int32) (x3 : Int32) (x4 : Int32) (x5 : Int32) (x7 : Int32) (x9 : Int32) (s0 : Int32) (m : dc_M) : Option ((Int32 × Int32 × Int32 × Int32) ⊕ ((Int32 × dc_M) ⊕ ((Int32 × dc_M) ⊕ dc_M))) :=
  (if (Int32.toInt x9) ≤ (Int32.toInt x4) then some (Sum.inl (x4, x5, s0, (x7 + (1 : Int32)))) else some (Sum.inl (x9, x5, s0, (x7 + (1 : Int32)))))
set_option maxHeartbeats 8000000 in
theorem k_X10_layEnds_b210 {u : Nat} {N : Nat} {Φ : (Option ((Int32 × Int32 × Int32 × Int32) ⊕ ((Int32 × dc_M) ⊕ ((Int32 × dc_M) ⊕ dc_M)))) → Option Value → dc_M → Prop} (x0 : Nat) (x1 : Int32) (x2 : Int32) (x3 : Int32) (x4 : Int32) (x5 : Int32) (x7 : Int32) (x9 : Int32) (s0 : Int32) (m : dc_M) (kR : ∀  (m : dc_M), Φ (some (Sum.inr (Sum.inr (Sum.inr (m))))) (none) m) (k92 : ∀ (x4 : Int32) (x5 : Int32) (x6 : Int32) (x7 : Int32) (lv : ab_L), ab_lk lv 0 = some (.ref x0) → ab_lk lv 1 = some (.int x1) → ab_lk lv 2 = some (.int x2) → ab_lk lv 3 = some (.int x3) → ab_lk lv 4 = some (.int x4) → ab_lk lv 5 = some (.int x5) → ab_lk lv 6 = some (.int x6) → ab_lk lv 7 = some (.int x7) →  dc_pv u N ab_M_X10_layEnds 92 lv [] m (Φ (some (Sum.inl (x4, x5, x6, x7))))) (k61 : ∀ (x3 : Int32) (m : dc_M) (lv : ab_L), ab_lk lv 0 = some (.ref x0) → ab_lk lv 1 = some (.int x1) → ab_lk lv 2 = some (.int x2) → ab_lk lv 3 = some (.int x3) →  dc_pv u N ab_M_X10_layEnds 61 lv [] m (Φ (some (Sum.inr (Sum.inl (x3, m)))))) (k51 : ∀ (x2 : Int32) (m : dc_M) (lv : ab_L), ab_lk lv 0 = some (.ref x0) → ab_lk lv 1 = some (.int x1) → ab_lk lv 2 = some (.int x2) →  dc_pv u N ab_M_X10_layEnds 51 lv [] m (Φ (some (Sum.inr (Sum.inr (Sum.inl (x2, m))))))) {lv : ab_L} (f0 : ab_lk lv 0 = some (.ref x0)) (f1 : ab_lk lv 1 = some (.int x1)) (f2 : ab_lk lv 2 = some (.int x2)) (f3 : ab_lk lv 3 = some (.int x3)) (f4 : ab_lk lv 4 = some (.int x4)) (f5 : ab_lk lv 5 = some (.int x5)) (f7 : ab_lk lv 7 = some (.int x7)) (f9 : ab_lk lv 9 = some (.int x9)) : dc_pv u N ab_M_X10_layEnds 210 lv [.int s0] m (Φ (d_X10_layEnds_b210 x0 x1 x2 x3 x4 x5 x7 x9 s0 m)) := by
  refine dc_pv.mono (dc_ok (C := C_X10_layEnds) (S := S_X10_layEnds) CO_X10_layEnds 400 210 [(0, .ref x0), (1, .int x1), (2, .int x2), (3, .int x3), (4, .int x4), (5, .int x5), (7, .int x7), (9, .int x9)] lv [.int s0] m (dc_sub_cons f0 (dc_sub_cons f1 (dc_sub_cons f2 (dc_sub_cons f3 (dc_sub_cons f4 (dc_sub_cons f5 (dc_sub_cons f7 (dc_sub_cons f9 (dc_sub_nil))))))))) ?_) (Nat.le_succ N)
  unfold d_X10_layEnds_b210
  refine dg_L (pc' := 212) [(6, .int s0), (0, .ref x0), (1, .int x1), (2, .int x2), (3, .int x3), (4, .int x4), (5, .int x5), (7, .int x7), (9, .int x9)] [] rfl (fun _ => rfl) rfl ?_
  refine dg_s (pc' := 214) [.int x9] rfl (fun _ => rfl) rfl ?_
  refine dg_s (pc' := 216) [.int x4, .int x9] rfl (fun _ => rfl) rfl ?_
  refine dw_if (fun t => Φ t) ((Int32.toInt x9) ≤ (Int32.toInt x4)) [] 224 219 rfl (fun _ => rfl) (fun c0 => ?_) (fun c0 => ?_)
  · refine dw_g rfl ?_
    refine dg_s (pc' := 226) [.int x4] rfl (fun _ => rfl) rfl ?_
    refine dg_L (pc' := 228) [(4, .int x4), (6, .int s0), (0, .ref x0), (1, .int x1), (2, .int x2), (3, .int x3), (5, .int x5), (7, .int x7), (9, .int x9)] [] rfl (fun _ => rfl) rfl ?_
    refine dg_L (pc' := 231) [(7, .int (x7 + (1 : Int32))), (4, .int x4), (6, .int s0), (0, .ref x0), (1, .int x1), (2, .int x2), (3, .int x3), (5, .int x5), (9, .int x9)] [] rfl (fun _ => rfl) rfl ?_
    refine dw_s (pc' := 92) [] rfl (fun _ => rfl) ?_
    exact dw_j rfl (fun lv1 hv => k92 x4 x5 s0 (x7 + (1 : Int32)) lv1 (hv.1 _ rfl) (hv.2.1 _ rfl) (hv.2.2.1 _ rfl) (hv.2.2.2.1 _ rfl) (hv.2.2.2.2.1 _ rfl) (hv.2.2.2.2.2.1 _ rfl) (hv.2.2.2.2.2.2.1 _ rfl) (hv.2.2.2.2.2.2.2.1 _ rfl))
  · refine dw_g rfl ?_
    refine dg_s (pc' := 221) [.int x9] rfl (fun _ => rfl) rfl ?_
    refine dg_s (pc' := 226) [.int x9] rfl (fun _ => rfl) rfl ?_
    refine dg_L (pc' := 228) [(4, .int x9), (6, .int s0), (0, .ref x0), (1, .int x1), (2, .int x2), (3, .int x3), (5, .int x5), (7, .int x7), (9, .int x9)] [] rfl (fun _ => rfl) rfl ?_
    refine dg_L (pc' := 231) [(7, .int (x7 + (1 : Int32))), (4, .int x9), (6, .int s0), (0, .ref x0), (1, .int x1), (2, .int x2), (3, .int x3), (5, .int x5), (9, .int x9)] [] rfl (fun _ => rfl) rfl ?_
    refine dw_s (pc' := 92) [] rfl (fun _ => rfl) ?_
    exact dw_j rfl (fun lv1 hv => k92 x9 x5 s0 (x7 + (1 : Int32)) lv1 (hv.1 _ rfl) (hv.2.1 _ rfl) (hv.2.2.1 _ rfl) (hv.2.2.2.1 _ rfl) (hv.2.2.2.2.1 _ rfl) (hv.2.2.2.2.2.1 _ rfl) (hv.2.2.2.2.2.2.1 _ rfl) (hv.2.2.2.2.2.2.2.1 _ rfl))
noncomputable def d_X10_layEnds_b192 (x0 : Nat) (x1 : Int32) (x2 : Int32) (x3 : Int32) (x4 : Int32) (x6 : Int32) (x7 : Int32) (x9 : Int32) (s0 : Int32) (m : dc_M) : Option ((Int32 × Int32 × Int32 × Int32) ⊕ ((Int32 × dc_M) ⊕ ((Int32 × dc_M) ⊕ dc_M))) :=
  (if ¬ (Int32.toInt x6) = 0 then (d_X10_layEnds_b210 x0 x1 x2 x3 x4 s0 x7 x9 (1 : Int32) m) else (if ¬ (Int32.toInt x9) = (-1) then (d_X10_layEnds_b210 x0 x1 x2 x3 x4 s0 x7 x9 (0 : Int32) m) else (d_X10_layEnds_b210 x0 x1 x2 x3 x4 s0 x7 x9 (1 : Int32) m)))
set_option maxHeartbeats 8000000 in
theorem k_X10_layEnds_b192 {u : Nat} {N : Nat} {Φ : (Option ((Int32 × Int32 × Int32 × Int32) ⊕ ((Int32 × dc_M) ⊕ ((Int32 × dc_M) ⊕ dc_M)))) → Option Value → dc_M → Prop} (x0 : Nat) (x1 : Int32) (x2 : Int32) (x3 : Int32) (x4 : Int32) (x6 : Int32) (x7 : Int32) (x9 : Int32) (s0 : Int32) (m : dc_M) (kR : ∀  (m : dc_M), Φ (some (Sum.inr (Sum.inr (Sum.inr (m))))) (none) m) (k92 : ∀ (x4 : Int32) (x5 : Int32) (x6 : Int32) (x7 : Int32) (lv : ab_L), ab_lk lv 0 = some (.ref x0) → ab_lk lv 1 = some (.int x1) → ab_lk lv 2 = some (.int x2) → ab_lk lv 3 = some (.int x3) → ab_lk lv 4 = some (.int x4) → ab_lk lv 5 = some (.int x5) → ab_lk lv 6 = some (.int x6) → ab_lk lv 7 = some (.int x7) →  dc_pv u N ab_M_X10_layEnds 92 lv [] m (Φ (some (Sum.inl (x4, x5, x6, x7))))) (k61 : ∀ (x3 : Int32) (m : dc_M) (lv : ab_L), ab_lk lv 0 = some (.ref x0) → ab_lk lv 1 = some (.int x1) → ab_lk lv 2 = some (.int x2) → ab_lk lv 3 = some (.int x3) →  dc_pv u N ab_M_X10_layEnds 61 lv [] m (Φ (some (Sum.inr (Sum.inl (x3, m)))))) (k51 : ∀ (x2 : Int32) (m : dc_M) (lv : ab_L), ab_lk lv 0 = some (.ref x0) → ab_lk lv 1 = some (.int x1) → ab_lk lv 2 = some (.int x2) →  dc_pv u N ab_M_X10_layEnds 51 lv [] m (Φ (some (Sum.inr (Sum.inr (Sum.inl (x2, m))))))) {lv : ab_L} (f0 : ab_lk lv 0 = some (.ref x0)) (f1 : ab_lk lv 1 = some (.int x1)) (f2 : ab_lk lv 2 = some (.int x2)) (f3 : ab_lk lv 3 = some (.int x3)) (f4 : ab_lk lv 4 = some (.int x4)) (f6 : ab_lk lv 6 = some (.int x6)) (f7 : ab_lk lv 7 = some (.int x7)) (f9 : ab_lk lv 9 = some (.int x9)) : dc_pv u N ab_M_X10_layEnds 192 lv [.int s0] m (Φ (d_X10_layEnds_b192 x0 x1 x2 x3 x4 x6 x7 x9 s0 m)) := by
  refine dc_pv.mono (dc_ok (C := C_X10_layEnds) (S := S_X10_layEnds) CO_X10_layEnds 400 192 [(0, .ref x0), (1, .int x1), (2, .int x2), (3, .int x3), (4, .int x4), (6, .int x6), (7, .int x7), (9, .int x9)] lv [.int s0] m (dc_sub_cons f0 (dc_sub_cons f1 (dc_sub_cons f2 (dc_sub_cons f3 (dc_sub_cons f4 (dc_sub_cons f6 (dc_sub_cons f7 (dc_sub_cons f9 (dc_sub_nil))))))))) ?_) (Nat.le_succ N)
  unfold d_X10_layEnds_b192
  refine dg_L (pc' := 194) [(5, .int s0), (0, .ref x0), (1, .int x1), (2, .int x2), (3, .int x3), (4, .int x4), (6, .int x6), (7, .int x7), (9, .int x9)] [] rfl (fun _ => rfl) rfl ?_
  refine dg_s (pc' := 196) [.int x6] rfl (fun _ => rfl) rfl ?_
  refine dw_if (fun t => Φ t) (¬ (Int32.toInt x6) = 0) [] 205 199 rfl (fun _ => rfl) (fun c0 => ?_) (fun c0 => ?_)
  · refine dw_g rfl ?_
    refine dg_s (pc' := 206) [.int (1 : Int32)] rfl (fun _ => rfl) rfl ?_
    refine dw_s (pc' := 210) [.int (1 : Int32)] rfl (fun _ => rfl) ?_
    exact dw_j rfl (fun lv1 hv => k_X10_layEnds_b210 (Φ := (fun t => Φ t)) x0 x1 x2 x3 x4 s0 x7 x9 (1 : Int32) m (fun _b => kR _b) k92 k61 k51 (hv.1 _ rfl) (hv.2.1 _ rfl) (hv.2.2.1 _ rfl) (hv.2.2.2.1 _ rfl) (hv.2.2.2.2.1 _ rfl) (hv.2.2.2.2.2.1 _ rfl) (hv.2.2.2.2.2.2.1 _ rfl) (hv.2.2.2.2.2.2.2.1 _ rfl))
  · refine dw_g rfl ?_
    refine dg_s (pc' := 201) [.int x9] rfl (fun _ => rfl) rfl ?_
    refine dg_s (pc' := 202) [.int (-1 : Int32), .int x9] rfl (fun _ => rfl) rfl ?_
    refine dw_if (fun t => Φ t) (¬ (Int32.toInt x9) = (-1)) [] 209 205 rfl (fun _ => rfl) (fun c1 => ?_) (fun c1 => ?_)
    · refine dw_g rfl ?_
      refine dw_s (pc' := 210) [.int (0 : Int32)] rfl (fun _ => rfl) ?_
      exact dw_j rfl (fun lv1 hv => k_X10_layEnds_b210 (Φ := (fun t => Φ t)) x0 x1 x2 x3 x4 s0 x7 x9 (0 : Int32) m (fun _b => kR _b) k92 k61 k51 (hv.1 _ rfl) (hv.2.1 _ rfl) (hv.2.2.1 _ rfl) (hv.2.2.2.1 _ rfl) (hv.2.2.2.2.1 _ rfl) (hv.2.2.2.2.2.1 _ rfl) (hv.2.2.2.2.2.2.1 _ rfl) (hv.2.2.2.2.2.2.2.1 _ rfl))
    · refine dw_g rfl ?_
      refine dg_s (pc' := 206) [.int (1 : Int32)] rfl (fun _ => rfl) rfl ?_
      refine dw_s (pc' := 210) [.int (1 : Int32)] rfl (fun _ => rfl) ?_
      exact dw_j rfl (fun lv1 hv => k_X10_layEnds_b210 (Φ := (fun t => Φ t)) x0 x1 x2 x3 x4 s0 x7 x9 (1 : Int32) m (fun _b => kR _b) k92 k61 k51 (hv.1 _ rfl) (hv.2.1 _ rfl) (hv.2.2.1 _ rfl) (hv.2.2.2.1 _ rfl) (hv.2.2.2.2.1 _ rfl) (hv.2.2.2.2.2.1 _ rfl) (hv.2.2.2.2.2.2.1 _ rfl) (hv.2.2.2.2.2.2.2.1 _ rfl))
noncomputable def d_X10_layEnds_b173 (x0 : Nat) (x1 : Int32) (x2 : Int32) (x3 : Int32) (x4 : Int32) (x5 : Int32) (x6 : Int32) (x7 : Int32) (s0 : Int32) (m : dc_M) : Option ((Int32 × Int32 × Int32 × Int32) ⊕ ((Int32 × dc_M) ⊕ ((Int32 × dc_M) ⊕ dc_M))) :=
  (if (Int32.toInt x5) = 0 then (d_X10_layEnds_b192 x0 x1 x2 x3 x4 x6 x7 s0 (0 : Int32) m) else (if (Int32.toInt s0) = (-2) then (d_X10_layEnds_b192 x0 x1 x2 x3 x4 x6 x7 s0 (0 : Int32) m) else (d_X10_layEnds_b192 x0 x1 x2 x3 x4 x6 x7 s0 (1 : Int32) m)))
set_option maxHeartbeats 8000000 in
theorem k_X10_layEnds_b173 {u : Nat} {N : Nat} {Φ : (Option ((Int32 × Int32 × Int32 × Int32) ⊕ ((Int32 × dc_M) ⊕ ((Int32 × dc_M) ⊕ dc_M)))) → Option Value → dc_M → Prop} (x0 : Nat) (x1 : Int32) (x2 : Int32) (x3 : Int32) (x4 : Int32) (x5 : Int32) (x6 : Int32) (x7 : Int32) (s0 : Int32) (m : dc_M) (kR : ∀  (m : dc_M), Φ (some (Sum.inr (Sum.inr (Sum.inr (m))))) (none) m) (k92 : ∀ (x4 : Int32) (x5 : Int32) (x6 : Int32) (x7 : Int32) (lv : ab_L), ab_lk lv 0 = some (.ref x0) → ab_lk lv 1 = some (.int x1) → ab_lk lv 2 = some (.int x2) → ab_lk lv 3 = some (.int x3) → ab_lk lv 4 = some (.int x4) → ab_lk lv 5 = some (.int x5) → ab_lk lv 6 = some (.int x6) → ab_lk lv 7 = some (.int x7) →  dc_pv u N ab_M_X10_layEnds 92 lv [] m (Φ (some (Sum.inl (x4, x5, x6, x7))))) (k61 : ∀ (x3 : Int32) (m : dc_M) (lv : ab_L), ab_lk lv 0 = some (.ref x0) → ab_lk lv 1 = some (.int x1) → ab_lk lv 2 = some (.int x2) → ab_lk lv 3 = some (.int x3) →  dc_pv u N ab_M_X10_layEnds 61 lv [] m (Φ (some (Sum.inr (Sum.inl (x3, m)))))) (k51 : ∀ (x2 : Int32) (m : dc_M) (lv : ab_L), ab_lk lv 0 = some (.ref x0) → ab_lk lv 1 = some (.int x1) → ab_lk lv 2 = some (.int x2) →  dc_pv u N ab_M_X10_layEnds 51 lv [] m (Φ (some (Sum.inr (Sum.inr (Sum.inl (x2, m))))))) {lv : ab_L} (f0 : ab_lk lv 0 = some (.ref x0)) (f1 : ab_lk lv 1 = some (.int x1)) (f2 : ab_lk lv 2 = some (.int x2)) (f3 : ab_lk lv 3 = some (.int x3)) (f4 : ab_lk lv 4 = some (.int x4)) (f5 : ab_lk lv 5 = some (.int x5)) (f6 : ab_lk lv 6 = some (.int x6)) (f7 : ab_lk lv 7 = some (.int x7)) : dc_pv u N ab_M_X10_layEnds 173 lv [.int s0] m (Φ (d_X10_layEnds_b173 x0 x1 x2 x3 x4 x5 x6 x7 s0 m)) := by
  refine dc_pv.mono (dc_ok (C := C_X10_layEnds) (S := S_X10_layEnds) CO_X10_layEnds 400 173 [(0, .ref x0), (1, .int x1), (2, .int x2), (3, .int x3), (4, .int x4), (5, .int x5), (6, .int x6), (7, .int x7)] lv [.int s0] m (dc_sub_cons f0 (dc_sub_cons f1 (dc_sub_cons f2 (dc_sub_cons f3 (dc_sub_cons f4 (dc_sub_cons f5 (dc_sub_cons f6 (dc_sub_cons f7 (dc_sub_nil))))))))) ?_) (Nat.le_succ N)
  unfold d_X10_layEnds_b173
  refine dg_L (pc' := 175) [(9, .int s0), (0, .ref x0), (1, .int x1), (2, .int x2), (3, .int x3), (4, .int x4), (5, .int x5), (6, .int x6), (7, .int x7)] [] rfl (fun _ => rfl) rfl ?_
  refine dg_s (pc' := 177) [.int x5] rfl (fun _ => rfl) rfl ?_
  refine dw_if (fun t => Φ t) ((Int32.toInt x5) = 0) [] 191 180 rfl (fun _ => rfl) (fun c0 => ?_) (fun c0 => ?_)
  · refine dw_g rfl ?_
    refine dw_s (pc' := 192) [.int (0 : Int32)] rfl (fun _ => rfl) ?_
    exact dw_j rfl (fun lv1 hv => k_X10_layEnds_b192 (Φ := (fun t => Φ t)) x0 x1 x2 x3 x4 x6 x7 s0 (0 : Int32) m (fun _b => kR _b) k92 k61 k51 (hv.1 _ rfl) (hv.2.1 _ rfl) (hv.2.2.1 _ rfl) (hv.2.2.2.1 _ rfl) (hv.2.2.2.2.1 _ rfl) (hv.2.2.2.2.2.1 _ rfl) (hv.2.2.2.2.2.2.1 _ rfl) (hv.2.2.2.2.2.2.2.1 _ rfl))
  · refine dw_g rfl ?_
    refine dg_s (pc' := 182) [.int s0] rfl (fun _ => rfl) rfl ?_
    refine dg_s (pc' := 184) [.int (-2 : Int32), .int s0] rfl (fun _ => rfl) rfl ?_
    refine dw_if (fun t => Φ t) ((Int32.toInt s0) = (-2)) [] 191 187 rfl (fun _ => rfl) (fun c1 => ?_) (fun c1 => ?_)
    · refine dw_g rfl ?_
      refine dw_s (pc' := 192) [.int (0 : Int32)] rfl (fun _ => rfl) ?_
      exact dw_j rfl (fun lv1 hv => k_X10_layEnds_b192 (Φ := (fun t => Φ t)) x0 x1 x2 x3 x4 x6 x7 s0 (0 : Int32) m (fun _b => kR _b) k92 k61 k51 (hv.1 _ rfl) (hv.2.1 _ rfl) (hv.2.2.1 _ rfl) (hv.2.2.2.1 _ rfl) (hv.2.2.2.2.1 _ rfl) (hv.2.2.2.2.2.1 _ rfl) (hv.2.2.2.2.2.2.1 _ rfl) (hv.2.2.2.2.2.2.2.1 _ rfl))
    · refine dw_g rfl ?_
      refine dg_s (pc' := 188) [.int (1 : Int32)] rfl (fun _ => rfl) rfl ?_
      refine dw_s (pc' := 192) [.int (1 : Int32)] rfl (fun _ => rfl) ?_
      exact dw_j rfl (fun lv1 hv => k_X10_layEnds_b192 (Φ := (fun t => Φ t)) x0 x1 x2 x3 x4 x6 x7 s0 (1 : Int32) m (fun _b => kR _b) k92 k61 k51 (hv.1 _ rfl) (hv.2.1 _ rfl) (hv.2.2.1 _ rfl) (hv.2.2.2.1 _ rfl) (hv.2.2.2.2.1 _ rfl) (hv.2.2.2.2.2.1 _ rfl) (hv.2.2.2.2.2.2.1 _ rfl) (hv.2.2.2.2.2.2.2.1 _ rfl))
noncomputable def d_X10_layEnds_b130 (x0 : Nat) (x1 : Int32) (x2 : Int32) (x3 : Int32) (x4 : Int32) (x5 : Int32) (x6 : Int32) (x7 : Int32) (s0 : Int32) (m : dc_M) : Option ((Int32 × Int32 × Int32 × Int32) ⊕ ((Int32 × dc_M) ⊕ ((Int32 × dc_M) ⊕ dc_M))) :=
  (if (Int32.toInt s0) = 0 then (d_X10_layEnds_b173 x0 x1 x2 x3 x4 x5 x6 x7 (m.1 (x0 + 31) (Int32.toNatClampNeg (m.1 (x0 + 29) (Int32.toNatClampNeg x7)))) m) else (if ¬ (Int32.toInt x1) = 1 then (d_X10_layEnds_b173 x0 x1 x2 x3 x4 x5 x6 x7 (m.1 (x0 + 32) (Int32.toNatClampNeg (m.1 (x0 + 29) (Int32.toNatClampNeg x7)))) m) else (d_X10_layEnds_b173 x0 x1 x2 x3 x4 x5 x6 x7 (0 : Int32) m)))
set_option maxHeartbeats 8000000 in
theorem k_X10_layEnds_b130 {u : Nat} {N : Nat} {Φ : (Option ((Int32 × Int32 × Int32 × Int32) ⊕ ((Int32 × dc_M) ⊕ ((Int32 × dc_M) ⊕ dc_M)))) → Option Value → dc_M → Prop} (x0 : Nat) (x1 : Int32) (x2 : Int32) (x3 : Int32) (x4 : Int32) (x5 : Int32) (x6 : Int32) (x7 : Int32) (s0 : Int32) (m : dc_M) (kR : ∀  (m : dc_M), Φ (some (Sum.inr (Sum.inr (Sum.inr (m))))) (none) m) (k92 : ∀ (x4 : Int32) (x5 : Int32) (x6 : Int32) (x7 : Int32) (lv : ab_L), ab_lk lv 0 = some (.ref x0) → ab_lk lv 1 = some (.int x1) → ab_lk lv 2 = some (.int x2) → ab_lk lv 3 = some (.int x3) → ab_lk lv 4 = some (.int x4) → ab_lk lv 5 = some (.int x5) → ab_lk lv 6 = some (.int x6) → ab_lk lv 7 = some (.int x7) →  dc_pv u N ab_M_X10_layEnds 92 lv [] m (Φ (some (Sum.inl (x4, x5, x6, x7))))) (k61 : ∀ (x3 : Int32) (m : dc_M) (lv : ab_L), ab_lk lv 0 = some (.ref x0) → ab_lk lv 1 = some (.int x1) → ab_lk lv 2 = some (.int x2) → ab_lk lv 3 = some (.int x3) →  dc_pv u N ab_M_X10_layEnds 61 lv [] m (Φ (some (Sum.inr (Sum.inl (x3, m)))))) (k51 : ∀ (x2 : Int32) (m : dc_M) (lv : ab_L), ab_lk lv 0 = some (.ref x0) → ab_lk lv 1 = some (.int x1) → ab_lk lv 2 = some (.int x2) →  dc_pv u N ab_M_X10_layEnds 51 lv [] m (Φ (some (Sum.inr (Sum.inr (Sum.inl (x2, m))))))) {lv : ab_L} (f0 : ab_lk lv 0 = some (.ref x0)) (f1 : ab_lk lv 1 = some (.int x1)) (f2 : ab_lk lv 2 = some (.int x2)) (f3 : ab_lk lv 3 = some (.int x3)) (f4 : ab_lk lv 4 = some (.int x4)) (f5 : ab_lk lv 5 = some (.int x5)) (f6 : ab_lk lv 6 = some (.int x6)) (f7 : ab_lk lv 7 = some (.int x7)) : dc_pv u N ab_M_X10_layEnds 130 lv [.int s0] m (Φ (d_X10_layEnds_b130 x0 x1 x2 x3 x4 x5 x6 x7 s0 m)) := by
  refine dc_pv.mono (dc_ok (C := C_X10_layEnds) (S := S_X10_layEnds) CO_X10_layEnds 400 130 [(0, .ref x0), (1, .int x1), (2, .int x2), (3, .int x3), (4, .int x4), (5, .int x5), (6, .int x6), (7, .int x7)] lv [.int s0] m (dc_sub_cons f0 (dc_sub_cons f1 (dc_sub_cons f2 (dc_sub_cons f3 (dc_sub_cons f4 (dc_sub_cons f5 (dc_sub_cons f6 (dc_sub_cons f7 (dc_sub_nil))))))))) ?_) (Nat.le_succ N)
  unfold d_X10_layEnds_b130
  refine dg_L (pc' := 132) [(8, .int s0), (0, .ref x0), (1, .int x1), (2, .int x2), (3, .int x3), (4, .int x4), (5, .int x5), (6, .int x6), (7, .int x7)] [] rfl (fun _ => rfl) rfl ?_
  refine dg_s (pc' := 134) [.int s0] rfl (fun _ => rfl) rfl ?_
  refine dw_if (fun t => Φ t) ((Int32.toInt s0) = 0) [] 161 137 rfl (fun _ => rfl) (fun c0 => ?_) (fun c0 => ?_)
  · refine dw_g rfl ?_
    refine dg_s (pc' := 162) [.ref x0] rfl (fun _ => rfl) rfl ?_
    refine dg_s (pc' := 165) [.ref (x0 + 31)] rfl (fun _ => rfl) rfl ?_
    refine dg_s (pc' := 166) [.ref x0, .ref (x0 + 31)] rfl (fun _ => rfl) rfl ?_
    refine dg_s (pc' := 169) [.ref (x0 + 29), .ref (x0 + 31)] rfl (fun _ => rfl) rfl ?_
    refine dg_s (pc' := 171) [.int x7, .ref (x0 + 29), .ref (x0 + 31)] rfl (fun _ => rfl) rfl ?_
    refine dg_s (pc' := 172) [.int (m.1 (x0 + 29) (Int32.toNatClampNeg x7)), .ref (x0 + 31)] rfl (fun _ => rfl) rfl ?_
    refine dw_s (pc' := 173) [.int (m.1 (x0 + 31) (Int32.toNatClampNeg (m.1 (x0 + 29) (Int32.toNatClampNeg x7))))] rfl (fun _ => rfl) ?_
    exact dw_j rfl (fun lv1 hv => k_X10_layEnds_b173 (Φ := (fun t => Φ t)) x0 x1 x2 x3 x4 x5 x6 x7 (m.1 (x0 + 31) (Int32.toNatClampNeg (m.1 (x0 + 29) (Int32.toNatClampNeg x7)))) m (fun _b => kR _b) k92 k61 k51 (hv.1 _ rfl) (hv.2.1 _ rfl) (hv.2.2.1 _ rfl) (hv.2.2.2.1 _ rfl) (hv.2.2.2.2.1 _ rfl) (hv.2.2.2.2.2.1 _ rfl) (hv.2.2.2.2.2.2.1 _ rfl) (hv.2.2.2.2.2.2.2.1 _ rfl))
  · refine dw_g rfl ?_
    refine dg_s (pc' := 138) [.int x1] rfl (fun _ => rfl) rfl ?_
    refine dg_s (pc' := 139) [.int (1 : Int32), .int x1] rfl (fun _ => rfl) rfl ?_
    refine dw_if (fun t => Φ t) (¬ (Int32.toInt x1) = 1) [] 146 142 rfl (fun _ => rfl) (fun c1 => ?_) (fun c1 => ?_)
    · refine dw_g rfl ?_
      refine dg_s (pc' := 147) [.ref x0] rfl (fun _ => rfl) rfl ?_
      refine dg_s (pc' := 150) [.ref (x0 + 32)] rfl (fun _ => rfl) rfl ?_
      refine dg_s (pc' := 151) [.ref x0, .ref (x0 + 32)] rfl (fun _ => rfl) rfl ?_
      refine dg_s (pc' := 154) [.ref (x0 + 29), .ref (x0 + 32)] rfl (fun _ => rfl) rfl ?_
      refine dg_s (pc' := 156) [.int x7, .ref (x0 + 29), .ref (x0 + 32)] rfl (fun _ => rfl) rfl ?_
      refine dg_s (pc' := 157) [.int (m.1 (x0 + 29) (Int32.toNatClampNeg x7)), .ref (x0 + 32)] rfl (fun _ => rfl) rfl ?_
      refine dg_s (pc' := 158) [.int (m.1 (x0 + 32) (Int32.toNatClampNeg (m.1 (x0 + 29) (Int32.toNatClampNeg x7))))] rfl (fun _ => rfl) rfl ?_
      refine dw_s (pc' := 173) [.int (m.1 (x0 + 32) (Int32.toNatClampNeg (m.1 (x0 + 29) (Int32.toNatClampNeg x7))))] rfl (fun _ => rfl) ?_
      exact dw_j rfl (fun lv1 hv => k_X10_layEnds_b173 (Φ := (fun t => Φ t)) x0 x1 x2 x3 x4 x5 x6 x7 (m.1 (x0 + 32) (Int32.toNatClampNeg (m.1 (x0 + 29) (Int32.toNatClampNeg x7)))) m (fun _b => kR _b) k92 k61 k51 (hv.1 _ rfl) (hv.2.1 _ rfl) (hv.2.2.1 _ rfl) (hv.2.2.2.1 _ rfl) (hv.2.2.2.2.1 _ rfl) (hv.2.2.2.2.2.1 _ rfl) (hv.2.2.2.2.2.2.1 _ rfl) (hv.2.2.2.2.2.2.2.1 _ rfl))
    · refine dw_g rfl ?_
      refine dg_s (pc' := 143) [.int (0 : Int32)] rfl (fun _ => rfl) rfl ?_
      refine dw_s (pc' := 173) [.int (0 : Int32)] rfl (fun _ => rfl) ?_
      exact dw_j rfl (fun lv1 hv => k_X10_layEnds_b173 (Φ := (fun t => Φ t)) x0 x1 x2 x3 x4 x5 x6 x7 (0 : Int32) m (fun _b => kR _b) k92 k61 k51 (hv.1 _ rfl) (hv.2.1 _ rfl) (hv.2.2.1 _ rfl) (hv.2.2.2.1 _ rfl) (hv.2.2.2.2.1 _ rfl) (hv.2.2.2.2.2.1 _ rfl) (hv.2.2.2.2.2.2.1 _ rfl) (hv.2.2.2.2.2.2.2.1 _ rfl))
noncomputable def d_X10_layEnds_l92b (x0 : Nat) (x1 : Int32) (x2 : Int32) (x3 : Int32) (x4 : Int32) (x5 : Int32) (x6 : Int32) (x7 : Int32) (m : dc_M) : Option ((Int32 × Int32 × Int32 × Int32) ⊕ ((Int32 × dc_M) ⊕ ((Int32 × dc_M) ⊕ dc_M))) :=
  (if (Int32.toInt (m.1 x0 10)) ≤ (Int32.toInt x7) then ((d_X10_layEnds_b234 x0 x1 x2 x3 x4 x5 x6 m).map (fun z => Sum.inr (z))) else (if ¬ (Int32.toInt (m.1 (x0 + 30) (Int32.toNatClampNeg x7))) = (Int32.toInt x3) then some (Sum.inl (x4, x5, x6, (x7 + (1 : Int32)))) else (if ¬ (Int32.toInt (((m.1 x0 11) >>> (x7 &&& 31)) &&& (1 : Int32))) = 1 then (d_X10_layEnds_b130 x0 x1 x2 x3 x4 x5 x6 x7 (0 : Int32) m) else (d_X10_layEnds_b130 x0 x1 x2 x3 x4 x5 x6 x7 (1 : Int32) m))))
noncomputable def d_X10_layEnds_l92s (x0 : Nat) (x1 : Int32) (x2 : Int32) (x3 : Int32) (m : dc_M) : (Int32 × Int32 × Int32 × Int32) → Option ((Int32 × Int32 × Int32 × Int32) ⊕ ((Int32 × dc_M) ⊕ ((Int32 × dc_M) ⊕ dc_M))) := fun s => d_X10_layEnds_l92b x0 x1 x2 x3 s.1 s.2.1 s.2.2.1 s.2.2.2 m
noncomputable def d_X10_layEnds_l92 (x0 : Nat) (x1 : Int32) (x2 : Int32) (x3 : Int32) (x4 : Int32) (x5 : Int32) (x6 : Int32) (x7 : Int32) (m : dc_M) : Option ((Int32 × dc_M) ⊕ ((Int32 × dc_M) ⊕ dc_M)) := dc_lp (d_X10_layEnds_l92s x0 x1 x2 x3 m) (x4, x5, x6, x7)
set_option maxHeartbeats 8000000 in
theorem k_X10_layEnds_l92 {u : Nat} {Φ : (Option ((Int32 × dc_M) ⊕ ((Int32 × dc_M) ⊕ dc_M))) → Option Value → dc_M → Prop} (x0 : Nat) (x1 : Int32) (x2 : Int32) (x3 : Int32) (m : dc_M) (kR : ∀  (m : dc_M), Φ (some (Sum.inr (Sum.inr (m)))) (none) m) : ∀ (N : Nat), (∀ (x3 : Int32) (m : dc_M) (lv : ab_L), ab_lk lv 0 = some (.ref x0) → ab_lk lv 1 = some (.int x1) → ab_lk lv 2 = some (.int x2) → ab_lk lv 3 = some (.int x3) →  dc_pv u N ab_M_X10_layEnds 61 lv [] m (Φ (some (Sum.inl (x3, m))))) → (∀ (x2 : Int32) (m : dc_M) (lv : ab_L), ab_lk lv 0 = some (.ref x0) → ab_lk lv 1 = some (.int x1) → ab_lk lv 2 = some (.int x2) →  dc_pv u N ab_M_X10_layEnds 51 lv [] m (Φ (some (Sum.inr (Sum.inl (x2, m)))))) → ∀ (x4 : Int32) (x5 : Int32) (x6 : Int32) (x7 : Int32) (lv : ab_L), ab_lk lv 0 = some (.ref x0) → ab_lk lv 1 = some (.int x1) → ab_lk lv 2 = some (.int x2) → ab_lk lv 3 = some (.int x3) → ab_lk lv 4 = some (.int x4) → ab_lk lv 5 = some (.int x5) → ab_lk lv 6 = some (.int x6) → ab_lk lv 7 = some (.int x7) → dc_pv u N ab_M_X10_layEnds 92 lv [] m (Φ (d_X10_layEnds_l92 x0 x1 x2 x3 x4 x5 x6 x7 m)) := by
  intro N
  induction N with
  | zero => intros; exact dc_pv_zero
  | succ N ih =>
    intro k61 k51 x4 x5 x6 x7 lv f0 f1 f2 f3 f4 f5 f6 f7
    have k61 := fun a0 a1 a2 a3 a4 a5 a6 => (k61 a0 a1 a2 a3 a4 a5 a6).mono (Nat.le_succ N)
    have k51 := fun a0 a1 a2 a3 a4 a5 => (k51 a0 a1 a2 a3 a4 a5).mono (Nat.le_succ N)
    have ih := ih k61 k51
    refine dc_ok (C := C_X10_layEnds) (S := S_X10_layEnds) CO_X10_layEnds 400 92 [(0, .ref x0), (1, .int x1), (2, .int x2), (3, .int x3), (4, .int x4), (5, .int x5), (6, .int x6), (7, .int x7)] lv [] m (dc_sub_cons f0 (dc_sub_cons f1 (dc_sub_cons f2 (dc_sub_cons f3 (dc_sub_cons f4 (dc_sub_cons f5 (dc_sub_cons f6 (dc_sub_cons f7 (dc_sub_nil))))))))) ?_
    unfold d_X10_layEnds_l92
    rw [dc_lp_eq]
    show (fun t x => dc_lf u N ab_M_X10_layEnds (Φ (Option.bind t (dc_bk (d_X10_layEnds_l92s x0 x1 x2 x3 m)))) x) (d_X10_layEnds_l92b x0 x1 x2 x3 x4 x5 x6 x7 m) _
    dsimp only
    unfold d_X10_layEnds_l92b
    refine dg_s (pc' := 94) [.int x7] rfl (fun _ => rfl) rfl ?_
    refine dg_s (pc' := 95) [.ref x0, .int x7] rfl (fun _ => rfl) rfl ?_
    refine dg_s (pc' := 98) [.int (m.1 x0 10), .int x7] rfl (fun _ => rfl) rfl ?_
    refine dw_if (fun t => Φ (Option.bind t (dc_bk (d_X10_layEnds_l92s x0 x1 x2 x3 m)))) ((Int32.toInt (m.1 x0 10)) ≤ (Int32.toInt x7)) [] 234 101 rfl (fun _ => rfl) (fun c0 => ?_) (fun c0 => ?_)
    · exact dw_j rfl (fun lv1 hv => k_X10_layEnds_b234 (Φ := (fun t => Φ (Option.bind (t.map (fun z => Sum.inr (z))) (dc_bk (d_X10_layEnds_l92s x0 x1 x2 x3 m))))) x0 x1 x2 x3 x4 x5 x6 m (fun _b => kR _b) k61 k51 (hv.1 _ rfl) (hv.2.1 _ rfl) (hv.2.2.1 _ rfl) (hv.2.2.2.1 _ rfl) (hv.2.2.2.2.1 _ rfl) (hv.2.2.2.2.2.1 _ rfl) (hv.2.2.2.2.2.2.1 _ rfl))
    · refine dw_g rfl ?_
      refine dg_s (pc' := 102) [.ref x0] rfl (fun _ => rfl) rfl ?_
      refine dg_s (pc' := 105) [.ref (x0 + 30)] rfl (fun _ => rfl) rfl ?_
      refine dg_s (pc' := 107) [.int x7, .ref (x0 + 30)] rfl (fun _ => rfl) rfl ?_
      refine dg_s (pc' := 108) [.int (m.1 (x0 + 30) (Int32.toNatClampNeg x7))] rfl (fun _ => rfl) rfl ?_
      refine dg_s (pc' := 109) [.int x3, .int (m.1 (x0 + 30) (Int32.toNatClampNeg x7))] rfl (fun _ => rfl) rfl ?_
      refine dw_if (fun t => Φ (Option.bind t (dc_bk (d_X10_layEnds_l92s x0 x1 x2 x3 m)))) (¬ (Int32.toInt (m.1 (x0 + 30) (Int32.toNatClampNeg x7))) = (Int32.toInt x3)) [] 228 112 rfl (fun _ => rfl) (fun c1 => ?_) (fun c1 => ?_)
      · refine dw_g rfl ?_
        refine dg_L (pc' := 231) [(7, .int (x7 + (1 : Int32))), (0, .ref x0), (1, .int x1), (2, .int x2), (3, .int x3), (4, .int x4), (5, .int x5), (6, .int x6)] [] rfl (fun _ => rfl) rfl ?_
        refine dw_s (pc' := 92) [] rfl (fun _ => rfl) ?_
        exact dw_j rfl (fun lv1 hv => ih x4 x5 x6 (x7 + (1 : Int32)) lv1 (hv.1 _ rfl) (hv.2.1 _ rfl) (hv.2.2.1 _ rfl) (hv.2.2.2.1 _ rfl) (hv.2.2.2.2.1 _ rfl) (hv.2.2.2.2.2.1 _ rfl) (hv.2.2.2.2.2.2.1 _ rfl) (hv.2.2.2.2.2.2.2.1 _ rfl))
      · refine dw_g rfl ?_
        refine dg_s (pc' := 113) [.ref x0] rfl (fun _ => rfl) rfl ?_
        refine dg_s (pc' := 116) [.int (m.1 x0 11)] rfl (fun _ => rfl) rfl ?_
        refine dg_s (pc' := 118) [.int x7, .int (m.1 x0 11)] rfl (fun _ => rfl) rfl ?_
        refine dg_s (pc' := 119) [.int ((m.1 x0 11) >>> (x7 &&& 31))] rfl (fun _ => rfl) rfl ?_
        refine dg_s (pc' := 120) [.int (1 : Int32), .int ((m.1 x0 11) >>> (x7 &&& 31))] rfl (fun _ => rfl) rfl ?_
        refine dg_s (pc' := 121) [.int (((m.1 x0 11) >>> (x7 &&& 31)) &&& (1 : Int32))] rfl (fun _ => rfl) rfl ?_
        refine dg_s (pc' := 122) [.int (1 : Int32), .int (((m.1 x0 11) >>> (x7 &&& 31)) &&& (1 : Int32))] rfl (fun _ => rfl) rfl ?_
        refine dw_if (fun t => Φ (Option.bind t (dc_bk (d_X10_layEnds_l92s x0 x1 x2 x3 m)))) (¬ (Int32.toInt (((m.1 x0 11) >>> (x7 &&& 31)) &&& (1 : Int32))) = 1) [] 129 125 rfl (fun _ => rfl) (fun c2 => ?_) (fun c2 => ?_)
        · refine dw_g rfl ?_
          refine dw_s (pc' := 130) [.int (0 : Int32)] rfl (fun _ => rfl) ?_
          exact dw_j rfl (fun lv1 hv => k_X10_layEnds_b130 (Φ := (fun t => Φ (Option.bind t (dc_bk (d_X10_layEnds_l92s x0 x1 x2 x3 m))))) x0 x1 x2 x3 x4 x5 x6 x7 (0 : Int32) m (fun _b => kR _b) ih k61 k51 (hv.1 _ rfl) (hv.2.1 _ rfl) (hv.2.2.1 _ rfl) (hv.2.2.2.1 _ rfl) (hv.2.2.2.2.1 _ rfl) (hv.2.2.2.2.2.1 _ rfl) (hv.2.2.2.2.2.2.1 _ rfl) (hv.2.2.2.2.2.2.2.1 _ rfl))
        · refine dw_g rfl ?_
          refine dg_s (pc' := 126) [.int (1 : Int32)] rfl (fun _ => rfl) rfl ?_
          refine dw_s (pc' := 130) [.int (1 : Int32)] rfl (fun _ => rfl) ?_
          exact dw_j rfl (fun lv1 hv => k_X10_layEnds_b130 (Φ := (fun t => Φ (Option.bind t (dc_bk (d_X10_layEnds_l92s x0 x1 x2 x3 m))))) x0 x1 x2 x3 x4 x5 x6 x7 (1 : Int32) m (fun _b => kR _b) ih k61 k51 (hv.1 _ rfl) (hv.2.1 _ rfl) (hv.2.2.1 _ rfl) (hv.2.2.2.1 _ rfl) (hv.2.2.2.2.1 _ rfl) (hv.2.2.2.2.2.1 _ rfl) (hv.2.2.2.2.2.2.1 _ rfl) (hv.2.2.2.2.2.2.2.1 _ rfl))
noncomputable def d_X10_layEnds_l61b (x0 : Nat) (x1 : Int32) (x2 : Int32) (x3 : Int32) (m : dc_M) : Option ((Int32 × dc_M) ⊕ ((Int32 × dc_M) ⊕ dc_M)) :=
  (if (Int32.toInt (m.1 x0 3)) ≤ (Int32.toInt x3) then some (Sum.inr (Sum.inl ((x2 + (1 : Int32)), m))) else (if ¬ (Int32.toInt (m.1 (x0 + 31) (Int32.toNatClampNeg x3))) = (-2) then some (Sum.inl ((x3 + (1 : Int32)), m)) else (d_X10_layEnds_l92 x0 x1 x2 x3 (0 : Int32) (1 : Int32) (0 : Int32) (0 : Int32) m)))
noncomputable def d_X10_layEnds_l61s (x0 : Nat) (x1 : Int32) (x2 : Int32) : (Int32 × dc_M) → Option ((Int32 × dc_M) ⊕ ((Int32 × dc_M) ⊕ dc_M)) := fun s => d_X10_layEnds_l61b x0 x1 x2 s.1 s.2
noncomputable def d_X10_layEnds_l61 (x0 : Nat) (x1 : Int32) (x2 : Int32) (x3 : Int32) (m : dc_M) : Option ((Int32 × dc_M) ⊕ dc_M) := dc_lp (d_X10_layEnds_l61s x0 x1 x2) (x3, m)
set_option maxHeartbeats 8000000 in
theorem k_X10_layEnds_l61 {u : Nat} {Φ : (Option ((Int32 × dc_M) ⊕ dc_M)) → Option Value → dc_M → Prop} (x0 : Nat) (x1 : Int32) (x2 : Int32) (kR : ∀  (m : dc_M), Φ (some (Sum.inr (m))) (none) m) : ∀ (N : Nat), (∀ (x2 : Int32) (m : dc_M) (lv : ab_L), ab_lk lv 0 = some (.ref x0) → ab_lk lv 1 = some (.int x1) → ab_lk lv 2 = some (.int x2) →  dc_pv u N ab_M_X10_layEnds 51 lv [] m (Φ (some (Sum.inl (x2, m))))) → ∀ (x3 : Int32) (m : dc_M) (lv : ab_L), ab_lk lv 0 = some (.ref x0) → ab_lk lv 1 = some (.int x1) → ab_lk lv 2 = some (.int x2) → ab_lk lv 3 = some (.int x3) → dc_pv u N ab_M_X10_layEnds 61 lv [] m (Φ (d_X10_layEnds_l61 x0 x1 x2 x3 m)) := by
  intro N
  induction N with
  | zero => intros; exact dc_pv_zero
  | succ N ih =>
    intro k51 x3 m lv f0 f1 f2 f3
    have k51 := fun a0 a1 a2 a3 a4 a5 => (k51 a0 a1 a2 a3 a4 a5).mono (Nat.le_succ N)
    have ih := ih k51
    refine dc_ok (C := C_X10_layEnds) (S := S_X10_layEnds) CO_X10_layEnds 400 61 [(0, .ref x0), (1, .int x1), (2, .int x2), (3, .int x3)] lv [] m (dc_sub_cons f0 (dc_sub_cons f1 (dc_sub_cons f2 (dc_sub_cons f3 (dc_sub_nil))))) ?_
    unfold d_X10_layEnds_l61
    rw [dc_lp_eq]
    show (fun t x => dc_lf u N ab_M_X10_layEnds (Φ (Option.bind t (dc_bk (d_X10_layEnds_l61s x0 x1 x2)))) x) (d_X10_layEnds_l61b x0 x1 x2 x3 m) _
    dsimp only
    unfold d_X10_layEnds_l61b
    refine dg_s (pc' := 62) [.int x3] rfl (fun _ => rfl) rfl ?_
    refine dg_s (pc' := 63) [.ref x0, .int x3] rfl (fun _ => rfl) rfl ?_
    refine dg_s (pc' := 66) [.int (m.1 x0 3), .int x3] rfl (fun _ => rfl) rfl ?_
    refine dw_if (fun t => Φ (Option.bind t (dc_bk (d_X10_layEnds_l61s x0 x1 x2)))) ((Int32.toInt (m.1 x0 3)) ≤ (Int32.toInt x3)) [] 274 69 rfl (fun _ => rfl) (fun c0 => ?_) (fun c0 => ?_)
    · refine dw_g rfl ?_
      refine dg_L (pc' := 277) [(2, .int (x2 + (1 : Int32))), (0, .ref x0), (1, .int x1), (3, .int x3)] [] rfl (fun _ => rfl) rfl ?_
      refine dw_s (pc' := 51) [] rfl (fun _ => rfl) ?_
      exact dw_j rfl (fun lv1 hv => k51 (x2 + (1 : Int32)) m lv1 (hv.1 _ rfl) (hv.2.1 _ rfl) (hv.2.2.1 _ rfl))
    · refine dw_g rfl ?_
      refine dg_s (pc' := 70) [.ref x0] rfl (fun _ => rfl) rfl ?_
      refine dg_s (pc' := 73) [.ref (x0 + 31)] rfl (fun _ => rfl) rfl ?_
      refine dg_s (pc' := 74) [.int x3, .ref (x0 + 31)] rfl (fun _ => rfl) rfl ?_
      refine dg_s (pc' := 75) [.int (m.1 (x0 + 31) (Int32.toNatClampNeg x3))] rfl (fun _ => rfl) rfl ?_
      refine dg_s (pc' := 77) [.int (-2 : Int32), .int (m.1 (x0 + 31) (Int32.toNatClampNeg x3))] rfl (fun _ => rfl) rfl ?_
      refine dw_if (fun t => Φ (Option.bind t (dc_bk (d_X10_layEnds_l61s x0 x1 x2)))) (¬ (Int32.toInt (m.1 (x0 + 31) (Int32.toNatClampNeg x3))) = (-2)) [] 268 80 rfl (fun _ => rfl) (fun c1 => ?_) (fun c1 => ?_)
      · refine dw_g rfl ?_
        refine dg_L (pc' := 271) [(3, .int (x3 + (1 : Int32))), (0, .ref x0), (1, .int x1), (2, .int x2)] [] rfl (fun _ => rfl) rfl ?_
        refine dw_s (pc' := 61) [] rfl (fun _ => rfl) ?_
        exact dw_j rfl (fun lv1 hv => ih (x3 + (1 : Int32)) m lv1 (hv.1 _ rfl) (hv.2.1 _ rfl) (hv.2.2.1 _ rfl) (hv.2.2.2.1 _ rfl))
      · refine dw_g rfl ?_
        refine dg_s (pc' := 81) [.int (0 : Int32)] rfl (fun _ => rfl) rfl ?_
        refine dg_L (pc' := 83) [(4, .int (0 : Int32)), (0, .ref x0), (1, .int x1), (2, .int x2), (3, .int x3)] [] rfl (fun _ => rfl) rfl ?_
        refine dg_s (pc' := 84) [.int (1 : Int32)] rfl (fun _ => rfl) rfl ?_
        refine dg_L (pc' := 86) [(5, .int (1 : Int32)), (4, .int (0 : Int32)), (0, .ref x0), (1, .int x1), (2, .int x2), (3, .int x3)] [] rfl (fun _ => rfl) rfl ?_
        refine dg_s (pc' := 87) [.int (0 : Int32)] rfl (fun _ => rfl) rfl ?_
        refine dg_L (pc' := 89) [(6, .int (0 : Int32)), (5, .int (1 : Int32)), (4, .int (0 : Int32)), (0, .ref x0), (1, .int x1), (2, .int x2), (3, .int x3)] [] rfl (fun _ => rfl) rfl ?_
        refine dg_s (pc' := 90) [.int (0 : Int32)] rfl (fun _ => rfl) rfl ?_
        refine dw_L (pc' := 92) [(7, .int (0 : Int32)), (6, .int (0 : Int32)), (5, .int (1 : Int32)), (4, .int (0 : Int32)), (0, .ref x0), (1, .int x1), (2, .int x2), (3, .int x3)] [] rfl (fun _ => rfl) ?_
        exact dw_j rfl (fun lv1 hv => k_X10_layEnds_l92 (Φ := (fun t => Φ (Option.bind t (dc_bk (d_X10_layEnds_l61s x0 x1 x2))))) x0 x1 x2 x3 m (fun _b => kR _b) N ih k51 (0 : Int32) (1 : Int32) (0 : Int32) (0 : Int32) lv1 (hv.1 _ rfl) (hv.2.1 _ rfl) (hv.2.2.1 _ rfl) (hv.2.2.2.1 _ rfl) (hv.2.2.2.2.1 _ rfl) (hv.2.2.2.2.2.1 _ rfl) (hv.2.2.2.2.2.2.1 _ rfl) (hv.2.2.2.2.2.2.2.1 _ rfl))
noncomputable def d_X10_layEnds_l51b (x0 : Nat) (x1 : Int32) (x2 : Int32) (m : dc_M) : Option ((Int32 × dc_M) ⊕ dc_M) :=
  (if (Int32.toInt (m.1 x0 3)) < (Int32.toInt x2) then some (Sum.inr (m)) else (d_X10_layEnds_l61 x0 x1 x2 (0 : Int32) m))
noncomputable def d_X10_layEnds_l51s (x0 : Nat) (x1 : Int32) : (Int32 × dc_M) → Option ((Int32 × dc_M) ⊕ dc_M) := fun s => d_X10_layEnds_l51b x0 x1 s.1 s.2
noncomputable def d_X10_layEnds_l51 (x0 : Nat) (x1 : Int32) (x2 : Int32) (m : dc_M) : Option dc_M := dc_lp (d_X10_layEnds_l51s x0 x1) (x2, m)
set_option maxHeartbeats 8000000 in
theorem k_X10_layEnds_l51 {u : Nat} {Φ : (Option dc_M) → Option Value → dc_M → Prop} (x0 : Nat) (x1 : Int32) (kR : ∀  (m : dc_M), Φ (some (m)) (none) m) : ∀ (N : Nat), ∀ (x2 : Int32) (m : dc_M) (lv : ab_L), ab_lk lv 0 = some (.ref x0) → ab_lk lv 1 = some (.int x1) → ab_lk lv 2 = some (.int x2) → dc_pv u N ab_M_X10_layEnds 51 lv [] m (Φ (d_X10_layEnds_l51 x0 x1 x2 m)) := by
  intro N
  induction N with
  | zero => intros; exact dc_pv_zero
  | succ N ih =>
    intro x2 m lv f0 f1 f2
    refine dc_ok (C := C_X10_layEnds) (S := S_X10_layEnds) CO_X10_layEnds 400 51 [(0, .ref x0), (1, .int x1), (2, .int x2)] lv [] m (dc_sub_cons f0 (dc_sub_cons f1 (dc_sub_cons f2 (dc_sub_nil)))) ?_
    unfold d_X10_layEnds_l51
    rw [dc_lp_eq]
    show (fun t x => dc_lf u N ab_M_X10_layEnds (Φ (Option.bind t (dc_bk (d_X10_layEnds_l51s x0 x1)))) x) (d_X10_layEnds_l51b x0 x1 x2 m) _
    dsimp only
    unfold d_X10_layEnds_l51b
    refine dg_s (pc' := 52) [.int x2] rfl (fun _ => rfl) rfl ?_
    refine dg_s (pc' := 53) [.ref x0, .int x2] rfl (fun _ => rfl) rfl ?_
    refine dg_s (pc' := 56) [.int (m.1 x0 3), .int x2] rfl (fun _ => rfl) rfl ?_
    refine dw_if (fun t => Φ (Option.bind t (dc_bk (d_X10_layEnds_l51s x0 x1)))) ((Int32.toInt (m.1 x0 3)) < (Int32.toInt x2)) [] 280 59 rfl (fun _ => rfl) (fun c0 => ?_) (fun c0 => ?_)
    · refine dw_g rfl ?_
      exact dw_r (some (.inl (none, m))) rfl (fun _ => rfl) (kR _)
    · refine dw_g rfl ?_
      refine dg_s (pc' := 60) [.int (0 : Int32)] rfl (fun _ => rfl) rfl ?_
      refine dw_L (pc' := 61) [(3, .int (0 : Int32)), (0, .ref x0), (1, .int x1), (2, .int x2)] [] rfl (fun _ => rfl) ?_
      exact dw_j rfl (fun lv1 hv => k_X10_layEnds_l61 (Φ := (fun t => Φ (Option.bind t (dc_bk (d_X10_layEnds_l51s x0 x1))))) x0 x1 x2 (fun _b => kR _b) N ih (0 : Int32) m lv1 (hv.1 _ rfl) (hv.2.1 _ rfl) (hv.2.2.1 _ rfl) (hv.2.2.2.1 _ rfl))
noncomputable def d_X10_layEnds_l2b (x0 : Nat) (x1 : Int32) (x2 : Int32) (m : dc_M) : Option ((Int32 × dc_M) ⊕ dc_M) :=
  (if (Int32.toInt (m.1 x0 3)) ≤ (Int32.toInt x2) then ((d_X10_layEnds_l51 x0 x1 (0 : Int32) m).map (fun z => Sum.inr (z))) else (if ¬ (Int32.toInt ((dc_wi m (x0 + 32) (Int32.toNatClampNeg x2) (m.1 (x0 + 31) (Int32.toNatClampNeg x2))).1 (x0 + 6) (Int32.toNatClampNeg x2))) = 0 then some (Sum.inl ((x2 + (1 : Int32)), (dc_wi (dc_wi m (x0 + 32) (Int32.toNatClampNeg x2) (m.1 (x0 + 31) (Int32.toNatClampNeg x2))) (x0 + 31) (Int32.toNatClampNeg x2) (-2 : Int32)))) else some (Sum.inl ((x2 + (1 : Int32)), (dc_wi (dc_wi m (x0 + 32) (Int32.toNatClampNeg x2) (m.1 (x0 + 31) (Int32.toNatClampNeg x2))) (x0 + 31) (Int32.toNatClampNeg x2) (-1 : Int32))))))
noncomputable def d_X10_layEnds_l2s (x0 : Nat) (x1 : Int32) : (Int32 × dc_M) → Option ((Int32 × dc_M) ⊕ dc_M) := fun s => d_X10_layEnds_l2b x0 x1 s.1 s.2
noncomputable def d_X10_layEnds_l2 (x0 : Nat) (x1 : Int32) (x2 : Int32) (m : dc_M) : Option dc_M := dc_lp (d_X10_layEnds_l2s x0 x1) (x2, m)
set_option maxHeartbeats 8000000 in
theorem k_X10_layEnds_l2 {u : Nat} {Φ : (Option dc_M) → Option Value → dc_M → Prop} (x0 : Nat) (x1 : Int32) (kR : ∀  (m : dc_M), Φ (some (m)) (none) m) : ∀ (N : Nat), ∀ (x2 : Int32) (m : dc_M) (lv : ab_L), ab_lk lv 0 = some (.ref x0) → ab_lk lv 1 = some (.int x1) → ab_lk lv 2 = some (.int x2) → dc_pv u N ab_M_X10_layEnds 2 lv [] m (Φ (d_X10_layEnds_l2 x0 x1 x2 m)) := by
  intro N
  induction N with
  | zero => intros; exact dc_pv_zero
  | succ N ih =>
    intro x2 m lv f0 f1 f2
    refine dc_ok (C := C_X10_layEnds) (S := S_X10_layEnds) CO_X10_layEnds 400 2 [(0, .ref x0), (1, .int x1), (2, .int x2)] lv [] m (dc_sub_cons f0 (dc_sub_cons f1 (dc_sub_cons f2 (dc_sub_nil)))) ?_
    unfold d_X10_layEnds_l2
    rw [dc_lp_eq]
    show (fun t x => dc_lf u N ab_M_X10_layEnds (Φ (Option.bind t (dc_bk (d_X10_layEnds_l2s x0 x1)))) x) (d_X10_layEnds_l2b x0 x1 x2 m) _
    dsimp only
    unfold d_X10_layEnds_l2b
    refine dg_s (pc' := 3) [.int x2] rfl (fun _ => rfl) rfl ?_
    refine dg_s (pc' := 4) [.ref x0, .int x2] rfl (fun _ => rfl) rfl ?_
    refine dg_s (pc' := 7) [.int (m.1 x0 3), .int x2] rfl (fun _ => rfl) rfl ?_
    refine dw_if (fun t => Φ (Option.bind t (dc_bk (d_X10_layEnds_l2s x0 x1)))) ((Int32.toInt (m.1 x0 3)) ≤ (Int32.toInt x2)) [] 49 10 rfl (fun _ => rfl) (fun c0 => ?_) (fun c0 => ?_)
    · refine dw_g rfl ?_
      refine dg_s (pc' := 50) [.int (0 : Int32)] rfl (fun _ => rfl) rfl ?_
      refine dw_L (pc' := 51) [(2, .int (0 : Int32)), (0, .ref x0), (1, .int x1)] [] rfl (fun _ => rfl) ?_
      exact dw_j rfl (fun lv1 hv => k_X10_layEnds_l51 (Φ := (fun t => Φ (Option.bind (t.map (fun z => Sum.inr (z))) (dc_bk (d_X10_layEnds_l2s x0 x1))))) x0 x1 (fun _b => kR _b) N  (0 : Int32) m lv1 (hv.1 _ rfl) (hv.2.1 _ rfl) (hv.2.2.1 _ rfl))
    · refine dw_g rfl ?_
      refine dg_s (pc' := 11) [.ref x0] rfl (fun _ => rfl) rfl ?_
      refine dg_s (pc' := 14) [.ref (x0 + 32)] rfl (fun _ => rfl) rfl ?_
      refine dg_s (pc' := 15) [.int x2, .ref (x0 + 32)] rfl (fun _ => rfl) rfl ?_
      refine dg_s (pc' := 16) [.ref x0, .int x2, .ref (x0 + 32)] rfl (fun _ => rfl) rfl ?_
      refine dg_s (pc' := 19) [.ref (x0 + 31), .int x2, .ref (x0 + 32)] rfl (fun _ => rfl) rfl ?_
      refine dg_s (pc' := 20) [.int x2, .ref (x0 + 31), .int x2, .ref (x0 + 32)] rfl (fun _ => rfl) rfl ?_
      refine dg_s (pc' := 21) [.int (m.1 (x0 + 31) (Int32.toNatClampNeg x2)), .int x2, .ref (x0 + 32)] rfl (fun _ => rfl) rfl ?_
      refine dg_m (pc' := 22) (dc_wi m (x0 + 32) (Int32.toNatClampNeg x2) (m.1 (x0 + 31) (Int32.toNatClampNeg x2))) [] rfl (fun _ => rfl) rfl ?_
      refine dg_s (pc' := 23) [.ref x0] rfl (fun _ => rfl) rfl ?_
      refine dg_s (pc' := 26) [.ref (x0 + 31)] rfl (fun _ => rfl) rfl ?_
      refine dg_s (pc' := 27) [.int x2, .ref (x0 + 31)] rfl (fun _ => rfl) rfl ?_
      refine dg_s (pc' := 28) [.ref x0, .int x2, .ref (x0 + 31)] rfl (fun _ => rfl) rfl ?_
      refine dg_s (pc' := 31) [.ref (x0 + 6), .int x2, .ref (x0 + 31)] rfl (fun _ => rfl) rfl ?_
      refine dg_s (pc' := 32) [.int x2, .ref (x0 + 6), .int x2, .ref (x0 + 31)] rfl (fun _ => rfl) rfl ?_
      refine dg_s (pc' := 33) [.int ((dc_wi m (x0 + 32) (Int32.toNatClampNeg x2) (m.1 (x0 + 31) (Int32.toNatClampNeg x2))).1 (x0 + 6) (Int32.toNatClampNeg x2)), .int x2, .ref (x0 + 31)] rfl (fun _ => rfl) rfl ?_
      refine dw_if (fun t => Φ (Option.bind t (dc_bk (d_X10_layEnds_l2s x0 x1)))) (¬ (Int32.toInt ((dc_wi m (x0 + 32) (Int32.toNatClampNeg x2) (m.1 (x0 + 31) (Int32.toNatClampNeg x2))).1 (x0 + 6) (Int32.toNatClampNeg x2))) = 0) [.int x2, .ref (x0 + 31)] 40 36 rfl (fun _ => rfl) (fun c1 => ?_) (fun c1 => ?_)
      · refine dw_g rfl ?_
        refine dg_s (pc' := 42) [.int (-2 : Int32), .int x2, .ref (x0 + 31)] rfl (fun _ => rfl) rfl ?_
        refine dg_m (pc' := 43) (dc_wi (dc_wi m (x0 + 32) (Int32.toNatClampNeg x2) (m.1 (x0 + 31) (Int32.toNatClampNeg x2))) (x0 + 31) (Int32.toNatClampNeg x2) (-2 : Int32)) [] rfl (fun _ => rfl) rfl ?_
        refine dg_L (pc' := 46) [(2, .int (x2 + (1 : Int32))), (0, .ref x0), (1, .int x1)] [] rfl (fun _ => rfl) rfl ?_
        refine dw_s (pc' := 2) [] rfl (fun _ => rfl) ?_
        exact dw_j rfl (fun lv1 hv => ih (x2 + (1 : Int32)) (dc_wi (dc_wi m (x0 + 32) (Int32.toNatClampNeg x2) (m.1 (x0 + 31) (Int32.toNatClampNeg x2))) (x0 + 31) (Int32.toNatClampNeg x2) (-2 : Int32)) lv1 (hv.1 _ rfl) (hv.2.1 _ rfl) (hv.2.2.1 _ rfl))
      · refine dw_g rfl ?_
        refine dg_s (pc' := 37) [.int (-1 : Int32), .int x2, .ref (x0 + 31)] rfl (fun _ => rfl) rfl ?_
        refine dg_s (pc' := 42) [.int (-1 : Int32), .int x2, .ref (x0 + 31)] rfl (fun _ => rfl) rfl ?_
        refine dg_m (pc' := 43) (dc_wi (dc_wi m (x0 + 32) (Int32.toNatClampNeg x2) (m.1 (x0 + 31) (Int32.toNatClampNeg x2))) (x0 + 31) (Int32.toNatClampNeg x2) (-1 : Int32)) [] rfl (fun _ => rfl) rfl ?_
        refine dg_L (pc' := 46) [(2, .int (x2 + (1 : Int32))), (0, .ref x0), (1, .int x1)] [] rfl (fun _ => rfl) rfl ?_
        refine dw_s (pc' := 2) [] rfl (fun _ => rfl) ?_
        exact dw_j rfl (fun lv1 hv => ih (x2 + (1 : Int32)) (dc_wi (dc_wi m (x0 + 32) (Int32.toNatClampNeg x2) (m.1 (x0 + 31) (Int32.toNatClampNeg x2))) (x0 + 31) (Int32.toNatClampNeg x2) (-1 : Int32)) lv1 (hv.1 _ rfl) (hv.2.1 _ rfl) (hv.2.2.1 _ rfl))
noncomputable def d_X10_layEnds (x0 : Nat) (x1 : Int32) (m : dc_M) : Option dc_M :=
  (d_X10_layEnds_l2 x0 x1 (0 : Int32) m)
set_option maxHeartbeats 8000000 in
theorem k_X10_layEnds {u : Nat} {N : Nat} {Φ : (Option dc_M) → Option Value → dc_M → Prop} (x0 : Nat) (x1 : Int32) (m : dc_M) (kR : ∀  (m : dc_M), Φ (some (m)) (none) m)  {lv : ab_L} (f0 : ab_lk lv 0 = some (.ref x0)) (f1 : ab_lk lv 1 = some (.int x1)) : dc_pv u N ab_M_X10_layEnds 0 lv [] m (Φ (d_X10_layEnds x0 x1 m)) := by
  refine dc_pv.mono (dc_ok (C := C_X10_layEnds) (S := S_X10_layEnds) CO_X10_layEnds 400 0 [(0, .ref x0), (1, .int x1)] lv [] m (dc_sub_cons f0 (dc_sub_cons f1 (dc_sub_nil))) ?_) (Nat.le_succ N)
  unfold d_X10_layEnds
  refine dg_s (pc' := 1) [.int (0 : Int32)] rfl (fun _ => rfl) rfl ?_
  refine dw_L (pc' := 2) [(2, .int (0 : Int32)), (0, .ref x0), (1, .int x1)] [] rfl (fun _ => rfl) ?_
  exact dw_j rfl (fun lv1 hv => k_X10_layEnds_l2 (Φ := (fun t => Φ t)) x0 x1 (fun _b => kR _b) N  (0 : Int32) m lv1 (hv.1 _ rfl) (hv.2.1 _ rfl) (hv.2.2.1 _ rfl))
noncomputable def H_X10_layEnds : dc_H := fun As m k => match As with
  | [.ref x0, .int x1] => (d_X10_layEnds x0 x1 m).bind (fun q => k (none) q)
  | _ => dc_kz
theorem H_X10_layEnds_ok {u : Nat} : dc_cok u 219 H_X10_layEnds := fun M' hG N As m k P hz hP => by
  obtain rfl : ab_M_X10_layEnds = M' := Option.some.inj hG
  unfold H_X10_layEnds at hP
  split at hP
  · rename_i x0 x1
    exact dc_pv.imp (k_X10_layEnds (Φ := fun (t : Option dc_M) r m' => P (t.bind (fun q => k (none) q)) → P (k r m')) x0 x1 m (fun _ h => h) rfl rfl) (fun r m' h => h hP)
  · exact absurd hP hz
noncomputable def C_X10_time : List (Nat × dc_H) := [(146, H_X10_in), (163, H_X10_isEvent), (215, H_X10_isGraph), (219, H_X10_layEnds)]
theorem CO_X10_time {u : Nat} : dc_CO u C_X10_time := dc_CO_cons H_X10_in_ok (dc_CO_cons H_X10_isEvent_ok (dc_CO_cons H_X10_isGraph_ok (dc_CO_cons H_X10_layEnds_ok (dc_CO_nil))))
def S_X10_time : List (Nat × List Nat) := [(34, [0, 1, 2, 3]), (50, [0, 1])]
noncomputable def d_X10_time_b50 (x0 : Nat) (x1 : Int32) (m : dc_M) : Option (Int32 × dc_M) :=
  (if ¬ (Int32.toInt (m.1 (x0 + 31) (Int32.toNatClampNeg x1))) = (-1) then some (((m.1 (x0 + 31) (Int32.toNatClampNeg x1)), m)) else some (((-4 : Int32), m)))
set_option maxHeartbeats 8000000 in
theorem k_X10_time_b50 {u : Nat} {N : Nat} {Φ : (Option (Int32 × dc_M)) → Option Value → dc_M → Prop} (x0 : Nat) (x1 : Int32) (m : dc_M) (kR : ∀ (v : Int32) (m : dc_M), Φ (some ((v, m))) (some (.int v)) m)  {lv : ab_L} (f0 : ab_lk lv 0 = some (.ref x0)) (f1 : ab_lk lv 1 = some (.int x1)) : dc_pv u N ab_M_X10_time 50 lv [] m (Φ (d_X10_time_b50 x0 x1 m)) := by
  refine dc_pv.mono (dc_ok (C := C_X10_time) (S := S_X10_time) CO_X10_time 400 50 [(0, .ref x0), (1, .int x1)] lv [] m (dc_sub_cons f0 (dc_sub_cons f1 (dc_sub_nil))) ?_) (Nat.le_succ N)
  unfold d_X10_time_b50
  refine dg_s (pc' := 51) [.ref x0] rfl (fun _ => rfl) rfl ?_
  refine dg_s (pc' := 54) [.ref (x0 + 31)] rfl (fun _ => rfl) rfl ?_
  refine dg_s (pc' := 55) [.int x1, .ref (x0 + 31)] rfl (fun _ => rfl) rfl ?_
  refine dg_s (pc' := 56) [.int (m.1 (x0 + 31) (Int32.toNatClampNeg x1))] rfl (fun _ => rfl) rfl ?_
  refine dg_s (pc' := 57) [.int (-1 : Int32), .int (m.1 (x0 + 31) (Int32.toNatClampNeg x1))] rfl (fun _ => rfl) rfl ?_
  refine dw_if (fun t => Φ t) (¬ (Int32.toInt (m.1 (x0 + 31) (Int32.toNatClampNeg x1))) = (-1)) [] 65 60 rfl (fun _ => rfl) (fun c0 => ?_) (fun c0 => ?_)
  · refine dw_g rfl ?_
    refine dg_s (pc' := 66) [.ref x0] rfl (fun _ => rfl) rfl ?_
    refine dg_s (pc' := 69) [.ref (x0 + 31)] rfl (fun _ => rfl) rfl ?_
    refine dg_s (pc' := 70) [.int x1, .ref (x0 + 31)] rfl (fun _ => rfl) rfl ?_
    refine dg_s (pc' := 71) [.int (m.1 (x0 + 31) (Int32.toNatClampNeg x1))] rfl (fun _ => rfl) rfl ?_
    exact dw_r (some (.inl (some (.int (m.1 (x0 + 31) (Int32.toNatClampNeg x1))), m))) rfl (fun _ => rfl) (kR _ _)
  · refine dw_g rfl ?_
    refine dg_s (pc' := 62) [.int (-4 : Int32)] rfl (fun _ => rfl) rfl ?_
    refine dg_s (pc' := 71) [.int (-4 : Int32)] rfl (fun _ => rfl) rfl ?_
    exact dw_r (some (.inl (some (.int (-4 : Int32)), m))) rfl (fun _ => rfl) (kR _ _)
noncomputable def d_X10_time_l34b (x0 : Nat) (x1 : Int32) (x2 : Int32) (x3 : Int32) (m : dc_M) : Option ((Int32 × dc_M) ⊕ (Int32 × dc_M)) :=
  (if (Int32.toInt x2) < (Int32.toInt x3) then ((d_X10_time_b50 x0 x1 m).map (fun z => Sum.inr (z))) else ((d_X10_layEnds x0 x3 m).bind (fun q1 => some (Sum.inl ((x3 + (1 : Int32)), q1)))))
noncomputable def d_X10_time_l34s (x0 : Nat) (x1 : Int32) (x2 : Int32) : (Int32 × dc_M) → Option ((Int32 × dc_M) ⊕ (Int32 × dc_M)) := fun s => d_X10_time_l34b x0 x1 x2 s.1 s.2
noncomputable def d_X10_time_l34 (x0 : Nat) (x1 : Int32) (x2 : Int32) (x3 : Int32) (m : dc_M) : Option (Int32 × dc_M) := dc_lp (d_X10_time_l34s x0 x1 x2) (x3, m)
set_option maxHeartbeats 8000000 in
theorem k_X10_time_l34 {u : Nat} {Φ : (Option (Int32 × dc_M)) → Option Value → dc_M → Prop} (x0 : Nat) (x1 : Int32) (x2 : Int32) (kR : ∀ (v : Int32) (m : dc_M), Φ (some ((v, m))) (some (.int v)) m) : ∀ (N : Nat), ∀ (x3 : Int32) (m : dc_M) (lv : ab_L), ab_lk lv 0 = some (.ref x0) → ab_lk lv 1 = some (.int x1) → ab_lk lv 2 = some (.int x2) → ab_lk lv 3 = some (.int x3) → dc_pv u N ab_M_X10_time 34 lv [] m (Φ (d_X10_time_l34 x0 x1 x2 x3 m)) := by
  intro N
  induction N with
  | zero => intros; exact dc_pv_zero
  | succ N ih =>
    intro x3 m lv f0 f1 f2 f3
    refine dc_ok (C := C_X10_time) (S := S_X10_time) CO_X10_time 400 34 [(0, .ref x0), (1, .int x1), (2, .int x2), (3, .int x3)] lv [] m (dc_sub_cons f0 (dc_sub_cons f1 (dc_sub_cons f2 (dc_sub_cons f3 (dc_sub_nil))))) ?_
    unfold d_X10_time_l34
    rw [dc_lp_eq]
    show (fun t x => dc_lf u N ab_M_X10_time (Φ (Option.bind t (dc_bk (d_X10_time_l34s x0 x1 x2)))) x) (d_X10_time_l34b x0 x1 x2 x3 m) _
    dsimp only
    unfold d_X10_time_l34b
    refine dg_s (pc' := 35) [.int x3] rfl (fun _ => rfl) rfl ?_
    refine dg_s (pc' := 36) [.int x2, .int x3] rfl (fun _ => rfl) rfl ?_
    refine dw_if (fun t => Φ (Option.bind t (dc_bk (d_X10_time_l34s x0 x1 x2)))) ((Int32.toInt x2) < (Int32.toInt x3)) [] 50 39 rfl (fun _ => rfl) (fun c0 => ?_) (fun c0 => ?_)
    · exact dw_j rfl (fun lv1 hv => k_X10_time_b50 (Φ := (fun t => Φ (Option.bind (t.map (fun z => Sum.inr (z))) (dc_bk (d_X10_time_l34s x0 x1 x2))))) x0 x1 m (fun _a _b => kR _a _b)  (hv.1 _ rfl) (hv.2.1 _ rfl))
    · refine dw_g rfl ?_
      refine dg_s (pc' := 40) [.ref x0] rfl (fun _ => rfl) rfl ?_
      refine dg_s (pc' := 41) [.int x3, .ref x0] rfl (fun _ => rfl) rfl ?_
      refine dw_b (fun t => Φ (Option.bind t (dc_bk (d_X10_time_l34s x0 x1 x2)))) (pc' := 44) (fun q1 => []) (fun q1 => q1) rfl (fun _ => rfl) (fun q1 => ?_)
      refine dw_g rfl ?_
      refine dg_L (pc' := 47) [(3, .int (x3 + (1 : Int32))), (0, .ref x0), (1, .int x1), (2, .int x2)] [] rfl (fun _ => rfl) rfl ?_
      refine dw_s (pc' := 34) [] rfl (fun _ => rfl) ?_
      exact dw_j rfl (fun lv1 hv => ih (x3 + (1 : Int32)) q1 lv1 (hv.1 _ rfl) (hv.2.1 _ rfl) (hv.2.2.1 _ rfl) (hv.2.2.2.1 _ rfl))
noncomputable def d_X10_time (x0 : Nat) (x1 : Int32) (x2 : Int32) (m : dc_M) : Option (Int32 × dc_M) :=
  (if (Int32.toInt (d_X10_isEvent x0 x1 m)) = 0 then some (((-1 : Int32), m)) else (if ¬ (Int32.toInt (d_X10_in (Int32.toInt64 x2) (1 : Int64) (50 : Int64) m)) = 0 then ((d_X10_isGraph x0 m).bind (fun q1 => (if ¬ (Int32.toInt q1.1) = 0 then (d_X10_time_l34 x0 x1 x2 (1 : Int32) q1.2) else some (((-2 : Int32), q1.2))))) else some (((-1 : Int32), m))))
set_option maxHeartbeats 8000000 in
theorem k_X10_time {u : Nat} {N : Nat} {Φ : (Option (Int32 × dc_M)) → Option Value → dc_M → Prop} (x0 : Nat) (x1 : Int32) (x2 : Int32) (m : dc_M) (kR : ∀ (v : Int32) (m : dc_M), Φ (some ((v, m))) (some (.int v)) m)  {lv : ab_L} (f0 : ab_lk lv 0 = some (.ref x0)) (f1 : ab_lk lv 1 = some (.int x1)) (f2 : ab_lk lv 2 = some (.int x2)) : dc_pv u N ab_M_X10_time 0 lv [] m (Φ (d_X10_time x0 x1 x2 m)) := by
  refine dc_pv.mono (dc_ok (C := C_X10_time) (S := S_X10_time) CO_X10_time 400 0 [(0, .ref x0), (1, .int x1), (2, .int x2)] lv [] m (dc_sub_cons f0 (dc_sub_cons f1 (dc_sub_cons f2 (dc_sub_nil)))) ?_) (Nat.le_succ N)
  unfold d_X10_time
  refine dg_s (pc' := 1) [.ref x0] rfl (fun _ => rfl) rfl ?_
  refine dg_s (pc' := 2) [.int x1, .ref x0] rfl (fun _ => rfl) rfl ?_
  refine dg_s (pc' := 5) [.int (d_X10_isEvent x0 x1 m)] rfl (fun _ => rfl) rfl ?_
  refine dw_if (fun t => Φ t) ((Int32.toInt (d_X10_isEvent x0 x1 m)) = 0) [] 20 8 rfl (fun _ => rfl) (fun c0 => ?_) (fun c0 => ?_)
  · refine dw_g rfl ?_
    refine dg_s (pc' := 21) [.int (-1 : Int32)] rfl (fun _ => rfl) rfl ?_
    exact dw_r (some (.inl (some (.int (-1 : Int32)), m))) rfl (fun _ => rfl) (kR _ _)
  · refine dw_g rfl ?_
    refine dg_s (pc' := 9) [.int x2] rfl (fun _ => rfl) rfl ?_
    refine dg_s (pc' := 10) [.long (Int32.toInt64 x2)] rfl (fun _ => rfl) rfl ?_
    refine dg_s (pc' := 11) [.long (1 : Int64), .long (Int32.toInt64 x2)] rfl (fun _ => rfl) rfl ?_
    refine dg_s (pc' := 14) [.long (50 : Int64), .long (1 : Int64), .long (Int32.toInt64 x2)] rfl (fun _ => rfl) rfl ?_
    refine dg_s (pc' := 17) [.int (d_X10_in (Int32.toInt64 x2) (1 : Int64) (50 : Int64) m)] rfl (fun _ => rfl) rfl ?_
    refine dw_if (fun t => Φ t) (¬ (Int32.toInt (d_X10_in (Int32.toInt64 x2) (1 : Int64) (50 : Int64) m)) = 0) [] 22 20 rfl (fun _ => rfl) (fun c1 => ?_) (fun c1 => ?_)
    · refine dw_g rfl ?_
      refine dg_s (pc' := 23) [.ref x0] rfl (fun _ => rfl) rfl ?_
      refine dw_b (fun t => Φ t) (pc' := 26) (fun q1 => [.int q1.1]) (fun q1 => q1.2) rfl (fun _ => rfl) (fun q1 => ?_)
      refine dw_g rfl ?_
      refine dw_if (fun t => Φ t) (¬ (Int32.toInt q1.1) = 0) [] 32 29 rfl (fun _ => rfl) (fun c2 => ?_) (fun c2 => ?_)
      · refine dw_g rfl ?_
        refine dg_s (pc' := 33) [.int (1 : Int32)] rfl (fun _ => rfl) rfl ?_
        refine dw_L (pc' := 34) [(3, .int (1 : Int32)), (0, .ref x0), (1, .int x1), (2, .int x2)] [] rfl (fun _ => rfl) ?_
        exact dw_j rfl (fun lv1 hv => k_X10_time_l34 (Φ := (fun t => Φ t)) x0 x1 x2 (fun _a _b => kR _a _b) N  (1 : Int32) q1.2 lv1 (hv.1 _ rfl) (hv.2.1 _ rfl) (hv.2.2.1 _ rfl) (hv.2.2.2.1 _ rfl))
      · refine dw_g rfl ?_
        refine dg_s (pc' := 31) [.int (-2 : Int32)] rfl (fun _ => rfl) rfl ?_
        exact dw_r (some (.inl (some (.int (-2 : Int32)), q1.2))) rfl (fun _ => rfl) (kR _ _)
    · refine dw_g rfl ?_
      refine dg_s (pc' := 21) [.int (-1 : Int32)] rfl (fun _ => rfl) rfl ?_
      exact dw_r (some (.inl (some (.int (-1 : Int32)), m))) rfl (fun _ => rfl) (kR _ _)
noncomputable def H_X10_time : dc_H := fun As m k => match As with
  | [.ref x0, .int x1, .int x2] => (d_X10_time x0 x1 x2 m).bind (fun q => k (some (.int q.1)) q.2)
  | _ => dc_kz
theorem H_X10_time_ok {u : Nat} : dc_cok u 220 H_X10_time := fun M' hG N As m k P hz hP => by
  obtain rfl : ab_M_X10_time = M' := Option.some.inj hG
  unfold H_X10_time at hP
  split at hP
  · rename_i x0 x1 x2
    exact dc_pv.imp (k_X10_time (Φ := fun (t : Option (Int32 × dc_M)) r m' => P (t.bind (fun q => k (some (.int q.1)) q.2)) → P (k r m')) x0 x1 x2 m (fun _ _ h => h) rfl rfl rfl) (fun r m' h => h hP)
  · exact absurd hP hz
