/-! ===== methods as functions (written by a program) ===== -/
noncomputable def C_X6_renew : List (Nat × dc_H) := [(238, H_J7_fill_53178)]
theorem CO_X6_renew {u : Nat} : dc_CO u C_X6_renew := dc_CO_cons H_J7_fill_53178_ok (dc_CO_nil)
def S_X6_renew : List (Nat × List Nat) := []
noncomputable def d_X6_renew (x0 : Nat) (x1 : Int32) (x2 : Int32) (m : dc_M) : Option dc_M :=
  ((d_J7_fill_53178 (x0 + 1) (0 : Int32) (dc_wi (dc_wi m x0 2 x1) x0 0 x2)).bind (fun q1 => some (q1)))
set_option maxHeartbeats 8000000 in
theorem k_X6_renew {u : Nat} {N : Nat} {Φ : (Option dc_M) → Option Value → dc_M → Prop} (x0 : Nat) (x1 : Int32) (x2 : Int32) (m : dc_M) (kR : ∀  (m : dc_M), Φ (some (m)) (none) m)  {lv : ab_L} (f0 : ab_lk lv 0 = some (.ref x0)) (f1 : ab_lk lv 1 = some (.int x1)) (f2 : ab_lk lv 2 = some (.int x2)) : dc_pv u N ab_M_X6_renew 0 lv [] m (Φ (d_X6_renew x0 x1 x2 m)) := by
  refine dc_pv.mono (dc_ok (C := C_X6_renew) (S := S_X6_renew) CO_X6_renew 400 0 [(0, .ref x0), (1, .int x1), (2, .int x2)] lv [] m (dc_sub_cons f0 (dc_sub_cons f1 (dc_sub_cons f2 (dc_sub_nil)))) ?_) (Nat.le_succ N)
  unfold d_X6_renew
  refine dg_s (pc' := 1) [.ref x0] rfl (fun _ => rfl) rfl ?_
  refine dg_s (pc' := 2) [.int x1, .ref x0] rfl (fun _ => rfl) rfl ?_
  refine dg_m (pc' := 5) (dc_wi m x0 2 x1) [] rfl (fun _ => rfl) rfl ?_
  refine dg_s (pc' := 6) [.ref x0] rfl (fun _ => rfl) rfl ?_
  refine dg_s (pc' := 7) [.int x2, .ref x0] rfl (fun _ => rfl) rfl ?_
  refine dg_m (pc' := 10) (dc_wi (dc_wi m x0 2 x1) x0 0 x2) [] rfl (fun _ => rfl) rfl ?_
  refine dg_s (pc' := 11) [.ref x0] rfl (fun _ => rfl) rfl ?_
  refine dg_s (pc' := 14) [.ref (x0 + 1)] rfl (fun _ => rfl) rfl ?_
  refine dg_s (pc' := 15) [.int (0 : Int32), .ref (x0 + 1)] rfl (fun _ => rfl) rfl ?_
  refine dw_b (fun t => Φ t) (pc' := 18) (fun q1 => []) (fun q1 => q1) rfl (fun _ => rfl) (fun q1 => ?_)
  refine dw_g rfl ?_
  exact dw_r (some (.inl (none, q1))) rfl (fun _ => rfl) (kR _)
noncomputable def H_X6_renew : dc_H := fun As m k => match As with
  | [.ref x0, .int x1, .int x2] => (d_X6_renew x0 x1 x2 m).bind (fun q => k (none) q)
  | _ => dc_kz
theorem H_X6_renew_ok {u : Nat} : dc_cok u 77 H_X6_renew := fun M' hG N As m k P hz hP => by
  obtain rfl : ab_M_X6_renew = M' := Option.some.inj hG
  unfold H_X6_renew at hP
  split at hP
  · rename_i x0 x1 x2
    exact dc_pv.imp (k_X6_renew (Φ := fun (t : Option dc_M) r m' => P (t.bind (fun q => k (none) q)) → P (k r m')) x0 x1 x2 m (fun _ h => h) rfl rfl rfl) (fun r m' h => h hP)
  · exact absurd hP hz
noncomputable def C_X9_sheet : List (Nat × dc_H) := [(77, H_X6_renew), (132, H_X9_isLane), (131, H_X9_isSheet)]
theorem CO_X9_sheet {u : Nat} : dc_CO u C_X9_sheet := dc_CO_cons H_X6_renew_ok (dc_CO_cons H_X9_isLane_ok (dc_CO_cons H_X9_isSheet_ok (dc_CO_nil)))
def S_X9_sheet : List (Nat × List Nat) := []
noncomputable def d_X9_sheet (x0 : Nat) (x1 : Int32) (x2 : Int32) (x3 : Int32) (m : dc_M) : Option (Int32 × dc_M) :=
  (if (Int32.toInt (d_X9_isSheet x1 m)) = 0 then some (((-1 : Int32), m)) else (if (Int32.toInt (d_X9_isLane x2 m)) = 0 then some (((-1 : Int32), m)) else (if (Int32.toInt x3) ≤ 64 then (if 0 ≤ (Int32.toInt x3) then ((d_X6_renew (m.2.2.1 (x0 + 39) (Int32.toNatClampNeg x1)) x2 x3 m).bind (fun q1 => some (((1 : Int32), q1)))) else some (((-14 : Int32), m))) else some (((-1 : Int32), m)))))
set_option maxHeartbeats 8000000 in
theorem k_X9_sheet {u : Nat} {N : Nat} {Φ : (Option (Int32 × dc_M)) → Option Value → dc_M → Prop} (x0 : Nat) (x1 : Int32) (x2 : Int32) (x3 : Int32) (m : dc_M) (kR : ∀ (v : Int32) (m : dc_M), Φ (some ((v, m))) (some (.int v)) m)  {lv : ab_L} (f0 : ab_lk lv 0 = some (.ref x0)) (f1 : ab_lk lv 1 = some (.int x1)) (f2 : ab_lk lv 2 = some (.int x2)) (f3 : ab_lk lv 3 = some (.int x3)) : dc_pv u N ab_M_X9_sheet 0 lv [] m (Φ (d_X9_sheet x0 x1 x2 x3 m)) := by
  refine dc_pv.mono (dc_ok (C := C_X9_sheet) (S := S_X9_sheet) CO_X9_sheet 400 0 [(0, .ref x0), (1, .int x1), (2, .int x2), (3, .int x3)] lv [] m (dc_sub_cons f0 (dc_sub_cons f1 (dc_sub_cons f2 (dc_sub_cons f3 (dc_sub_nil))))) ?_) (Nat.le_succ N)
  unfold d_X9_sheet
  refine dg_s (pc' := 1) [.int x1] rfl (fun _ => rfl) rfl ?_
  refine dg_s (pc' := 4) [.int (d_X9_isSheet x1 m)] rfl (fun _ => rfl) rfl ?_
  refine dw_if (fun t => Φ t) ((Int32.toInt (d_X9_isSheet x1 m)) = 0) [] 20 7 rfl (fun _ => rfl) (fun c0 => ?_) (fun c0 => ?_)
  · refine dw_g rfl ?_
    refine dg_s (pc' := 21) [.int (-1 : Int32)] rfl (fun _ => rfl) rfl ?_
    exact dw_r (some (.inl (some (.int (-1 : Int32)), m))) rfl (fun _ => rfl) (kR _ _)
  · refine dw_g rfl ?_
    refine dg_s (pc' := 8) [.int x2] rfl (fun _ => rfl) rfl ?_
    refine dg_s (pc' := 11) [.int (d_X9_isLane x2 m)] rfl (fun _ => rfl) rfl ?_
    refine dw_if (fun t => Φ t) ((Int32.toInt (d_X9_isLane x2 m)) = 0) [] 20 14 rfl (fun _ => rfl) (fun c1 => ?_) (fun c1 => ?_)
    · refine dw_g rfl ?_
      refine dg_s (pc' := 21) [.int (-1 : Int32)] rfl (fun _ => rfl) rfl ?_
      exact dw_r (some (.inl (some (.int (-1 : Int32)), m))) rfl (fun _ => rfl) (kR _ _)
    · refine dw_g rfl ?_
      refine dg_s (pc' := 15) [.int x3] rfl (fun _ => rfl) rfl ?_
      refine dg_s (pc' := 17) [.int (64 : Int32), .int x3] rfl (fun _ => rfl) rfl ?_
      refine dw_if (fun t => Φ t) ((Int32.toInt x3) ≤ 64) [] 22 20 rfl (fun _ => rfl) (fun c2 => ?_) (fun c2 => ?_)
      · refine dw_g rfl ?_
        refine dg_s (pc' := 23) [.int x3] rfl (fun _ => rfl) rfl ?_
        refine dw_if (fun t => Φ t) (0 ≤ (Int32.toInt x3)) [] 29 26 rfl (fun _ => rfl) (fun c3 => ?_) (fun c3 => ?_)
        · refine dw_g rfl ?_
          refine dg_s (pc' := 30) [.ref x0] rfl (fun _ => rfl) rfl ?_
          refine dg_s (pc' := 33) [.ref (x0 + 39)] rfl (fun _ => rfl) rfl ?_
          refine dg_s (pc' := 34) [.int x1, .ref (x0 + 39)] rfl (fun _ => rfl) rfl ?_
          refine dg_s (pc' := 35) [.ref (m.2.2.1 (x0 + 39) (Int32.toNatClampNeg x1))] rfl (fun _ => rfl) rfl ?_
          refine dg_s (pc' := 36) [.int x2, .ref (m.2.2.1 (x0 + 39) (Int32.toNatClampNeg x1))] rfl (fun _ => rfl) rfl ?_
          refine dg_s (pc' := 37) [.int x3, .int x2, .ref (m.2.2.1 (x0 + 39) (Int32.toNatClampNeg x1))] rfl (fun _ => rfl) rfl ?_
          refine dw_b (fun t => Φ t) (pc' := 40) (fun q1 => []) (fun q1 => q1) rfl (fun _ => rfl) (fun q1 => ?_)
          refine dw_g rfl ?_
          refine dg_s (pc' := 41) [.int (1 : Int32)] rfl (fun _ => rfl) rfl ?_
          exact dw_r (some (.inl (some (.int (1 : Int32)), q1))) rfl (fun _ => rfl) (kR _ _)
        · refine dw_g rfl ?_
          refine dg_s (pc' := 28) [.int (-14 : Int32)] rfl (fun _ => rfl) rfl ?_
          exact dw_r (some (.inl (some (.int (-14 : Int32)), m))) rfl (fun _ => rfl) (kR _ _)
      · refine dw_g rfl ?_
        refine dg_s (pc' := 21) [.int (-1 : Int32)] rfl (fun _ => rfl) rfl ?_
        exact dw_r (some (.inl (some (.int (-1 : Int32)), m))) rfl (fun _ => rfl) (kR _ _)
noncomputable def H_X9_sheet : dc_H := fun As m k => match As with
  | [.ref x0, .int x1, .int x2, .int x3] => (d_X9_sheet x0 x1 x2 x3 m).bind (fun q => k (some (.int q.1)) q.2)
  | _ => dc_kz
theorem H_X9_sheet_ok {u : Nat} : dc_cok u 127 H_X9_sheet := fun M' hG N As m k P hz hP => by
  obtain rfl : ab_M_X9_sheet = M' := Option.some.inj hG
  unfold H_X9_sheet at hP
  split at hP
  · rename_i x0 x1 x2 x3
    exact dc_pv.imp (k_X9_sheet (Φ := fun (t : Option (Int32 × dc_M)) r m' => P (t.bind (fun q => k (some (.int q.1)) q.2)) → P (k r m')) x0 x1 x2 x3 m (fun _ _ h => h) rfl rfl rfl rfl) (fun r m' h => h hP)
  · exact absurd hP hz
def C_X10_sheet : List (Nat × dc_H) := [(146, H_X10_in)]
theorem CO_X10_sheet {u : Nat} : dc_CO u C_X10_sheet := dc_CO_cons H_X10_in_ok (dc_CO_nil)
def S_X10_sheet : List (Nat × List Nat) := [(56, [0, 1, 4])]
noncomputable def d_X10_sheet_l56b (x0 : Nat) (x1 : Int32) (x4 : Int32) (m : dc_M) : Option ((Int32 × dc_M) ⊕ (Int32 × dc_M)) :=
  (if 64 ≤ (Int32.toInt x4) then some (Sum.inr (((1 : Int32), m))) else some (Sum.inl ((x4 + (1 : Int32)), (dc_wi m (x0 + 37) (Int32.toNatClampNeg (((64 : Int32) * x1) + x4)) (0 : Int32)))))
noncomputable def d_X10_sheet_l56s (x0 : Nat) (x1 : Int32) : (Int32 × dc_M) → Option ((Int32 × dc_M) ⊕ (Int32 × dc_M)) := fun s => d_X10_sheet_l56b x0 x1 s.1 s.2
noncomputable def d_X10_sheet_l56 (x0 : Nat) (x1 : Int32) (x4 : Int32) (m : dc_M) : Option (Int32 × dc_M) := dc_lp (d_X10_sheet_l56s x0 x1) (x4, m)
set_option maxHeartbeats 8000000 in
theorem k_X10_sheet_l56 {u : Nat} {Φ : (Option (Int32 × dc_M)) → Option Value → dc_M → Prop} (x0 : Nat) (x1 : Int32) (kR : ∀ (v : Int32) (m : dc_M), Φ (some ((v, m))) (some (.int v)) m) : ∀ (N : Nat), ∀ (x4 : Int32) (m : dc_M) (lv : ab_L), ab_lk lv 0 = some (.ref x0) → ab_lk lv 1 = some (.int x1) → ab_lk lv 4 = some (.int x4) → dc_pv u N ab_M_X10_sheet 56 lv [] m (Φ (d_X10_sheet_l56 x0 x1 x4 m)) := by
  intro N
  induction N with
  | zero => intros; exact dc_pv_zero
  | succ N ih =>
    intro x4 m lv f0 f1 f4
    refine dc_ok (C := C_X10_sheet) (S := S_X10_sheet) CO_X10_sheet 400 56 [(0, .ref x0), (1, .int x1), (4, .int x4)] lv [] m (dc_sub_cons f0 (dc_sub_cons f1 (dc_sub_cons f4 (dc_sub_nil)))) ?_
    unfold d_X10_sheet_l56
    rw [dc_lp_eq]
    show (fun t x => dc_lf u N ab_M_X10_sheet (Φ (Option.bind t (dc_bk (d_X10_sheet_l56s x0 x1)))) x) (d_X10_sheet_l56b x0 x1 x4 m) _
    dsimp only
    unfold d_X10_sheet_l56b
    refine dg_s (pc' := 58) [.int x4] rfl (fun _ => rfl) rfl ?_
    refine dg_s (pc' := 60) [.int (64 : Int32), .int x4] rfl (fun _ => rfl) rfl ?_
    refine dw_if (fun t => Φ (Option.bind t (dc_bk (d_X10_sheet_l56s x0 x1)))) (64 ≤ (Int32.toInt x4)) [] 82 63 rfl (fun _ => rfl) (fun c0 => ?_) (fun c0 => ?_)
    · refine dw_g rfl ?_
      refine dg_s (pc' := 83) [.int (1 : Int32)] rfl (fun _ => rfl) rfl ?_
      exact dw_r (some (.inl (some (.int (1 : Int32)), m))) rfl (fun _ => rfl) (kR _ _)
    · refine dw_g rfl ?_
      refine dg_s (pc' := 64) [.ref x0] rfl (fun _ => rfl) rfl ?_
      refine dg_s (pc' := 67) [.ref (x0 + 37)] rfl (fun _ => rfl) rfl ?_
      refine dg_s (pc' := 69) [.int (64 : Int32), .ref (x0 + 37)] rfl (fun _ => rfl) rfl ?_
      refine dg_s (pc' := 70) [.int x1, .int (64 : Int32), .ref (x0 + 37)] rfl (fun _ => rfl) rfl ?_
      refine dg_s (pc' := 71) [.int ((64 : Int32) * x1), .ref (x0 + 37)] rfl (fun _ => rfl) rfl ?_
      refine dg_s (pc' := 73) [.int x4, .int ((64 : Int32) * x1), .ref (x0 + 37)] rfl (fun _ => rfl) rfl ?_
      refine dg_s (pc' := 74) [.int (((64 : Int32) * x1) + x4), .ref (x0 + 37)] rfl (fun _ => rfl) rfl ?_
      refine dg_s (pc' := 75) [.int (0 : Int32), .int (((64 : Int32) * x1) + x4), .ref (x0 + 37)] rfl (fun _ => rfl) rfl ?_
      refine dg_m (pc' := 76) (dc_wi m (x0 + 37) (Int32.toNatClampNeg (((64 : Int32) * x1) + x4)) (0 : Int32)) [] rfl (fun _ => rfl) rfl ?_
      refine dg_L (pc' := 79) [(4, .int (x4 + (1 : Int32))), (0, .ref x0), (1, .int x1)] [] rfl (fun _ => rfl) rfl ?_
      refine dw_s (pc' := 56) [] rfl (fun _ => rfl) ?_
      exact dw_j rfl (fun lv1 hv => ih (x4 + (1 : Int32)) (dc_wi m (x0 + 37) (Int32.toNatClampNeg (((64 : Int32) * x1) + x4)) (0 : Int32)) lv1 (hv.1 _ rfl) (hv.2.1 _ rfl) (hv.2.2.1 _ rfl))
noncomputable def d_X10_sheet (x0 : Nat) (x1 : Int32) (x2 : Int32) (x3 : Int32) (m : dc_M) : Option (Int32 × dc_M) :=
  (if (Int32.toInt (d_X10_in (Int32.toInt64 x1) (0 : Int64) (3 : Int64) m)) = 0 then some (((-1 : Int32), m)) else (if (Int32.toInt (d_X10_in (Int32.toInt64 x2) (0 : Int64) (2 : Int64) m)) = 0 then some (((-1 : Int32), m)) else (if (Int32.toInt x3) ≤ 64 then (if 0 ≤ (Int32.toInt x3) then (d_X10_sheet_l56 x0 x1 (0 : Int32) (dc_wi (dc_wi m (x0 + 35) (Int32.toNatClampNeg x1) x2) (x0 + 36) (Int32.toNatClampNeg x1) x3)) else some (((-14 : Int32), m))) else some (((-1 : Int32), m)))))
set_option maxHeartbeats 8000000 in
theorem k_X10_sheet {u : Nat} {N : Nat} {Φ : (Option (Int32 × dc_M)) → Option Value → dc_M → Prop} (x0 : Nat) (x1 : Int32) (x2 : Int32) (x3 : Int32) (m : dc_M) (kR : ∀ (v : Int32) (m : dc_M), Φ (some ((v, m))) (some (.int v)) m)  {lv : ab_L} (f0 : ab_lk lv 0 = some (.ref x0)) (f1 : ab_lk lv 1 = some (.int x1)) (f2 : ab_lk lv 2 = some (.int x2)) (f3 : ab_lk lv 3 = some (.int x3)) : dc_pv u N ab_M_X10_sheet 0 lv [] m (Φ (d_X10_sheet x0 x1 x2 x3 m)) := by
  refine dc_pv.mono (dc_ok (C := C_X10_sheet) (S := S_X10_sheet) CO_X10_sheet 400 0 [(0, .ref x0), (1, .int x1), (2, .int x2), (3, .int x3)] lv [] m (dc_sub_cons f0 (dc_sub_cons f1 (dc_sub_cons f2 (dc_sub_cons f3 (dc_sub_nil))))) ?_) (Nat.le_succ N)
  unfold d_X10_sheet
  refine dg_s (pc' := 1) [.int x1] rfl (fun _ => rfl) rfl ?_
  refine dg_s (pc' := 2) [.long (Int32.toInt64 x1)] rfl (fun _ => rfl) rfl ?_
  refine dg_s (pc' := 3) [.long (0 : Int64), .long (Int32.toInt64 x1)] rfl (fun _ => rfl) rfl ?_
  refine dg_s (pc' := 6) [.long (3 : Int64), .long (0 : Int64), .long (Int32.toInt64 x1)] rfl (fun _ => rfl) rfl ?_
  refine dg_s (pc' := 9) [.int (d_X10_in (Int32.toInt64 x1) (0 : Int64) (3 : Int64) m)] rfl (fun _ => rfl) rfl ?_
  refine dw_if (fun t => Φ t) ((Int32.toInt (d_X10_in (Int32.toInt64 x1) (0 : Int64) (3 : Int64) m)) = 0) [] 30 12 rfl (fun _ => rfl) (fun c0 => ?_) (fun c0 => ?_)
  · refine dw_g rfl ?_
    refine dg_s (pc' := 31) [.int (-1 : Int32)] rfl (fun _ => rfl) rfl ?_
    exact dw_r (some (.inl (some (.int (-1 : Int32)), m))) rfl (fun _ => rfl) (kR _ _)
  · refine dw_g rfl ?_
    refine dg_s (pc' := 13) [.int x2] rfl (fun _ => rfl) rfl ?_
    refine dg_s (pc' := 14) [.long (Int32.toInt64 x2)] rfl (fun _ => rfl) rfl ?_
    refine dg_s (pc' := 15) [.long (0 : Int64), .long (Int32.toInt64 x2)] rfl (fun _ => rfl) rfl ?_
    refine dg_s (pc' := 18) [.long (2 : Int64), .long (0 : Int64), .long (Int32.toInt64 x2)] rfl (fun _ => rfl) rfl ?_
    refine dg_s (pc' := 21) [.int (d_X10_in (Int32.toInt64 x2) (0 : Int64) (2 : Int64) m)] rfl (fun _ => rfl) rfl ?_
    refine dw_if (fun t => Φ t) ((Int32.toInt (d_X10_in (Int32.toInt64 x2) (0 : Int64) (2 : Int64) m)) = 0) [] 30 24 rfl (fun _ => rfl) (fun c1 => ?_) (fun c1 => ?_)
    · refine dw_g rfl ?_
      refine dg_s (pc' := 31) [.int (-1 : Int32)] rfl (fun _ => rfl) rfl ?_
      exact dw_r (some (.inl (some (.int (-1 : Int32)), m))) rfl (fun _ => rfl) (kR _ _)
    · refine dw_g rfl ?_
      refine dg_s (pc' := 25) [.int x3] rfl (fun _ => rfl) rfl ?_
      refine dg_s (pc' := 27) [.int (64 : Int32), .int x3] rfl (fun _ => rfl) rfl ?_
      refine dw_if (fun t => Φ t) ((Int32.toInt x3) ≤ 64) [] 32 30 rfl (fun _ => rfl) (fun c2 => ?_) (fun c2 => ?_)
      · refine dw_g rfl ?_
        refine dg_s (pc' := 33) [.int x3] rfl (fun _ => rfl) rfl ?_
        refine dw_if (fun t => Φ t) (0 ≤ (Int32.toInt x3)) [] 39 36 rfl (fun _ => rfl) (fun c3 => ?_) (fun c3 => ?_)
        · refine dw_g rfl ?_
          refine dg_s (pc' := 40) [.ref x0] rfl (fun _ => rfl) rfl ?_
          refine dg_s (pc' := 43) [.ref (x0 + 35)] rfl (fun _ => rfl) rfl ?_
          refine dg_s (pc' := 44) [.int x1, .ref (x0 + 35)] rfl (fun _ => rfl) rfl ?_
          refine dg_s (pc' := 45) [.int x2, .int x1, .ref (x0 + 35)] rfl (fun _ => rfl) rfl ?_
          refine dg_m (pc' := 46) (dc_wi m (x0 + 35) (Int32.toNatClampNeg x1) x2) [] rfl (fun _ => rfl) rfl ?_
          refine dg_s (pc' := 47) [.ref x0] rfl (fun _ => rfl) rfl ?_
          refine dg_s (pc' := 50) [.ref (x0 + 36)] rfl (fun _ => rfl) rfl ?_
          refine dg_s (pc' := 51) [.int x1, .ref (x0 + 36)] rfl (fun _ => rfl) rfl ?_
          refine dg_s (pc' := 52) [.int x3, .int x1, .ref (x0 + 36)] rfl (fun _ => rfl) rfl ?_
          refine dg_m (pc' := 53) (dc_wi (dc_wi m (x0 + 35) (Int32.toNatClampNeg x1) x2) (x0 + 36) (Int32.toNatClampNeg x1) x3) [] rfl (fun _ => rfl) rfl ?_
          refine dg_s (pc' := 54) [.int (0 : Int32)] rfl (fun _ => rfl) rfl ?_
          refine dw_L (pc' := 56) [(4, .int (0 : Int32)), (0, .ref x0), (1, .int x1), (2, .int x2), (3, .int x3)] [] rfl (fun _ => rfl) ?_
          exact dw_j rfl (fun lv1 hv => k_X10_sheet_l56 (Φ := (fun t => Φ t)) x0 x1 (fun _a _b => kR _a _b) N  (0 : Int32) (dc_wi (dc_wi m (x0 + 35) (Int32.toNatClampNeg x1) x2) (x0 + 36) (Int32.toNatClampNeg x1) x3) lv1 (hv.1 _ rfl) (hv.2.1 _ rfl) (hv.2.2.1 _ rfl))
        · refine dw_g rfl ?_
          refine dg_s (pc' := 38) [.int (-14 : Int32)] rfl (fun _ => rfl) rfl ?_
          exact dw_r (some (.inl (some (.int (-14 : Int32)), m))) rfl (fun _ => rfl) (kR _ _)
      · refine dw_g rfl ?_
        refine dg_s (pc' := 31) [.int (-1 : Int32)] rfl (fun _ => rfl) rfl ?_
        exact dw_r (some (.inl (some (.int (-1 : Int32)), m))) rfl (fun _ => rfl) (kR _ _)
noncomputable def H_X10_sheet : dc_H := fun As m k => match As with
  | [.ref x0, .int x1, .int x2, .int x3] => (d_X10_sheet x0 x1 x2 x3 m).bind (fun q => k (some (.int q.1)) q.2)
  | _ => dc_kz
theorem H_X10_sheet_ok {u : Nat} : dc_cok u 225 H_X10_sheet := fun M' hG N As m k P hz hP => by
  obtain rfl : ab_M_X10_sheet = M' := Option.some.inj hG
  unfold H_X10_sheet at hP
  split at hP
  · rename_i x0 x1 x2 x3
    exact dc_pv.imp (k_X10_sheet (Φ := fun (t : Option (Int32 × dc_M)) r m' => P (t.bind (fun q => k (some (.int q.1)) q.2)) → P (k r m')) x0 x1 x2 x3 m (fun _ _ h => h) rfl rfl rfl rfl) (fun r m' h => h hP)
  · exact absurd hP hz
def C_X6_put : List (Nat × dc_H) := []
theorem CO_X6_put {u : Nat} : dc_CO u C_X6_put := dc_CO_nil
def S_X6_put : List (Nat × List Nat) := []
def d_X6_put (x0 : Nat) (x1 : Int32) (x2 : Int32) (m : dc_M) : dc_M :=
  (if ¬ (Int32.toInt (m.1 x0 2)) = 0 then (if ¬ (Int32.toInt (m.1 x0 2)) = 1 then (dc_wi m (x0 + 1) (Int32.toNatClampNeg x1) x2) else (dc_wi m (x0 + 1) (Int32.toNatClampNeg x1) ((x2).toInt16.toInt32))) else (dc_wi m (x0 + 1) (Int32.toNatClampNeg x1) ((x2).toInt8.toInt32)))
set_option maxHeartbeats 8000000 in
theorem k_X6_put {u : Nat} {N : Nat} {Φ : dc_M → Option Value → dc_M → Prop} (x0 : Nat) (x1 : Int32) (x2 : Int32) (m : dc_M) (kR : ∀  (m : dc_M), Φ (m) (none) m)  {lv : ab_L} (f0 : ab_lk lv 0 = some (.ref x0)) (f1 : ab_lk lv 1 = some (.int x1)) (f2 : ab_lk lv 2 = some (.int x2)) : dc_pv u N ab_M_X6_put 0 lv [] m (Φ (d_X6_put x0 x1 x2 m)) := by
  refine dc_pv.mono (dc_ok (C := C_X6_put) (S := S_X6_put) CO_X6_put 400 0 [(0, .ref x0), (1, .int x1), (2, .int x2)] lv [] m (dc_sub_cons f0 (dc_sub_cons f1 (dc_sub_cons f2 (dc_sub_nil)))) ?_) (Nat.le_succ N)
  unfold d_X6_put
  refine dg_s (pc' := 1) [.ref x0] rfl (fun _ => rfl) rfl ?_
  refine dg_s (pc' := 4) [.ref (x0 + 1)] rfl (fun _ => rfl) rfl ?_
  refine dg_s (pc' := 5) [.int x1, .ref (x0 + 1)] rfl (fun _ => rfl) rfl ?_
  refine dg_s (pc' := 6) [.ref x0, .int x1, .ref (x0 + 1)] rfl (fun _ => rfl) rfl ?_
  refine dg_s (pc' := 9) [.int (m.1 x0 2), .int x1, .ref (x0 + 1)] rfl (fun _ => rfl) rfl ?_
  refine dw_if (fun t => Φ t) (¬ (Int32.toInt (m.1 x0 2)) = 0) [.int x1, .ref (x0 + 1)] 17 12 rfl (fun _ => rfl) (fun c0 => ?_) (fun c0 => ?_)
  · refine dw_g rfl ?_
    refine dg_s (pc' := 18) [.ref x0, .int x1, .ref (x0 + 1)] rfl (fun _ => rfl) rfl ?_
    refine dg_s (pc' := 21) [.int (m.1 x0 2), .int x1, .ref (x0 + 1)] rfl (fun _ => rfl) rfl ?_
    refine dg_s (pc' := 22) [.int (1 : Int32), .int (m.1 x0 2), .int x1, .ref (x0 + 1)] rfl (fun _ => rfl) rfl ?_
    refine dw_if (fun t => Φ t) (¬ (Int32.toInt (m.1 x0 2)) = 1) [.int x1, .ref (x0 + 1)] 30 25 rfl (fun _ => rfl) (fun c1 => ?_) (fun c1 => ?_)
    · refine dw_g rfl ?_
      refine dg_s (pc' := 31) [.int x2, .int x1, .ref (x0 + 1)] rfl (fun _ => rfl) rfl ?_
      refine dg_m (pc' := 32) (dc_wi m (x0 + 1) (Int32.toNatClampNeg x1) x2) [] rfl (fun _ => rfl) rfl ?_
      exact dw_r (some (.inl (none, (dc_wi m (x0 + 1) (Int32.toNatClampNeg x1) x2)))) rfl (fun _ => rfl) (kR _)
    · refine dw_g rfl ?_
      refine dg_s (pc' := 26) [.int x2, .int x1, .ref (x0 + 1)] rfl (fun _ => rfl) rfl ?_
      refine dg_s (pc' := 27) [.int ((x2).toInt16.toInt32), .int x1, .ref (x0 + 1)] rfl (fun _ => rfl) rfl ?_
      refine dg_s (pc' := 31) [.int ((x2).toInt16.toInt32), .int x1, .ref (x0 + 1)] rfl (fun _ => rfl) rfl ?_
      refine dg_m (pc' := 32) (dc_wi m (x0 + 1) (Int32.toNatClampNeg x1) ((x2).toInt16.toInt32)) [] rfl (fun _ => rfl) rfl ?_
      exact dw_r (some (.inl (none, (dc_wi m (x0 + 1) (Int32.toNatClampNeg x1) ((x2).toInt16.toInt32))))) rfl (fun _ => rfl) (kR _)
  · refine dw_g rfl ?_
    refine dg_s (pc' := 13) [.int x2, .int x1, .ref (x0 + 1)] rfl (fun _ => rfl) rfl ?_
    refine dg_s (pc' := 14) [.int ((x2).toInt8.toInt32), .int x1, .ref (x0 + 1)] rfl (fun _ => rfl) rfl ?_
    refine dg_s (pc' := 31) [.int ((x2).toInt8.toInt32), .int x1, .ref (x0 + 1)] rfl (fun _ => rfl) rfl ?_
    refine dg_m (pc' := 32) (dc_wi m (x0 + 1) (Int32.toNatClampNeg x1) ((x2).toInt8.toInt32)) [] rfl (fun _ => rfl) rfl ?_
    exact dw_r (some (.inl (none, (dc_wi m (x0 + 1) (Int32.toNatClampNeg x1) ((x2).toInt8.toInt32))))) rfl (fun _ => rfl) (kR _)
def H_X6_put : dc_H := fun As m k => match As with
  | [.ref x0, .int x1, .int x2] => dc_let (d_X6_put x0 x1 x2 m) (fun q => k (none) q)
  | _ => dc_kz
theorem H_X6_put_ok {u : Nat} : dc_cok u 80 H_X6_put := fun M' hG N As m k P hz hP => by
  obtain rfl : ab_M_X6_put = M' := Option.some.inj hG
  unfold H_X6_put at hP
  split at hP
  · rename_i x0 x1 x2
    exact dc_pv.imp (k_X6_put (Φ := fun (t : dc_M) r m' => P (dc_let t (fun q => k (none) q)) → P (k r m')) x0 x1 x2 m (fun _ h => h) rfl rfl rfl) (fun r m' h => h hP)
  · exact absurd hP hz
def C_X9_lay : List (Nat × dc_H) := [(79, H_X6_hasCells), (76, H_X6_isNothing), (80, H_X6_put), (131, H_X9_isSheet)]
theorem CO_X9_lay {u : Nat} : dc_CO u C_X9_lay := dc_CO_cons H_X6_hasCells_ok (dc_CO_cons H_X6_isNothing_ok (dc_CO_cons H_X6_put_ok (dc_CO_cons H_X9_isSheet_ok (dc_CO_nil))))
def S_X9_lay : List (Nat × List Nat) := []
def d_X9_lay (x0 : Nat) (x1 : Int32) (x2 : Int32) (x3 : Int32) (m : dc_M) : (Int32 × dc_M) :=
  (if ¬ (Int32.toInt (d_X9_isSheet x1 m)) = 0 then (if (Int32.toInt (d_X6_isNothing (m.2.2.1 (x0 + 39) (Int32.toNatClampNeg x1)) m)) = 0 then (if ¬ (Int32.toInt (d_X6_hasCells (m.2.2.1 (x0 + 39) (Int32.toNatClampNeg x1)) x2 (1 : Int32) m)) = 0 then (dc_let (d_X6_put (m.2.2.1 (x0 + 39) (Int32.toNatClampNeg x1)) x2 x3 m) (fun q1 => ((1 : Int32), q1))) else ((-12 : Int32), m)) else ((-11 : Int32), m)) else ((-1 : Int32), m))
set_option maxHeartbeats 8000000 in
theorem k_X9_lay {u : Nat} {N : Nat} {Φ : (Int32 × dc_M) → Option Value → dc_M → Prop} (x0 : Nat) (x1 : Int32) (x2 : Int32) (x3 : Int32) (m : dc_M) (kR : ∀ (v : Int32) (m : dc_M), Φ ((v, m)) (some (.int v)) m)  {lv : ab_L} (f0 : ab_lk lv 0 = some (.ref x0)) (f1 : ab_lk lv 1 = some (.int x1)) (f2 : ab_lk lv 2 = some (.int x2)) (f3 : ab_lk lv 3 = some (.int x3)) : dc_pv u N ab_M_X9_lay 0 lv [] m (Φ (d_X9_lay x0 x1 x2 x3 m)) := by
  refine dc_pv.mono (dc_ok (C := C_X9_lay) (S := S_X9_lay) CO_X9_lay 400 0 [(0, .ref x0), (1, .int x1), (2, .int x2), (3, .int x3)] lv [] m (dc_sub_cons f0 (dc_sub_cons f1 (dc_sub_cons f2 (dc_sub_cons f3 (dc_sub_nil))))) ?_) (Nat.le_succ N)
  unfold d_X9_lay
  refine dg_s (pc' := 1) [.int x1] rfl (fun _ => rfl) rfl ?_
  refine dg_s (pc' := 4) [.int (d_X9_isSheet x1 m)] rfl (fun _ => rfl) rfl ?_
  refine dw_if (fun t => Φ t) (¬ (Int32.toInt (d_X9_isSheet x1 m)) = 0) [] 9 7 rfl (fun _ => rfl) (fun c0 => ?_) (fun c0 => ?_)
  · refine dw_g rfl ?_
    refine dg_s (pc' := 10) [.ref x0] rfl (fun _ => rfl) rfl ?_
    refine dg_s (pc' := 13) [.ref (x0 + 39)] rfl (fun _ => rfl) rfl ?_
    refine dg_s (pc' := 14) [.int x1, .ref (x0 + 39)] rfl (fun _ => rfl) rfl ?_
    refine dg_s (pc' := 15) [.ref (m.2.2.1 (x0 + 39) (Int32.toNatClampNeg x1))] rfl (fun _ => rfl) rfl ?_
    refine dg_L (pc' := 17) [(4, .ref (m.2.2.1 (x0 + 39) (Int32.toNatClampNeg x1))), (0, .ref x0), (1, .int x1), (2, .int x2), (3, .int x3)] [] rfl (fun _ => rfl) rfl ?_
    refine dg_s (pc' := 19) [.ref (m.2.2.1 (x0 + 39) (Int32.toNatClampNeg x1))] rfl (fun _ => rfl) rfl ?_
    refine dg_s (pc' := 22) [.int (d_X6_isNothing (m.2.2.1 (x0 + 39) (Int32.toNatClampNeg x1)) m)] rfl (fun _ => rfl) rfl ?_
    refine dw_if (fun t => Φ t) ((Int32.toInt (d_X6_isNothing (m.2.2.1 (x0 + 39) (Int32.toNatClampNeg x1)) m)) = 0) [] 28 25 rfl (fun _ => rfl) (fun c1 => ?_) (fun c1 => ?_)
    · refine dw_g rfl ?_
      refine dg_s (pc' := 30) [.ref (m.2.2.1 (x0 + 39) (Int32.toNatClampNeg x1))] rfl (fun _ => rfl) rfl ?_
      refine dg_s (pc' := 31) [.int x2, .ref (m.2.2.1 (x0 + 39) (Int32.toNatClampNeg x1))] rfl (fun _ => rfl) rfl ?_
      refine dg_s (pc' := 32) [.int (1 : Int32), .int x2, .ref (m.2.2.1 (x0 + 39) (Int32.toNatClampNeg x1))] rfl (fun _ => rfl) rfl ?_
      refine dg_s (pc' := 35) [.int (d_X6_hasCells (m.2.2.1 (x0 + 39) (Int32.toNatClampNeg x1)) x2 (1 : Int32) m)] rfl (fun _ => rfl) rfl ?_
      refine dw_if (fun t => Φ t) (¬ (Int32.toInt (d_X6_hasCells (m.2.2.1 (x0 + 39) (Int32.toNatClampNeg x1)) x2 (1 : Int32) m)) = 0) [] 41 38 rfl (fun _ => rfl) (fun c2 => ?_) (fun c2 => ?_)
      · refine dw_g rfl ?_
        refine dg_s (pc' := 43) [.ref (m.2.2.1 (x0 + 39) (Int32.toNatClampNeg x1))] rfl (fun _ => rfl) rfl ?_
        refine dg_s (pc' := 44) [.int x2, .ref (m.2.2.1 (x0 + 39) (Int32.toNatClampNeg x1))] rfl (fun _ => rfl) rfl ?_
        refine dg_s (pc' := 45) [.int x3, .int x2, .ref (m.2.2.1 (x0 + 39) (Int32.toNatClampNeg x1))] rfl (fun _ => rfl) rfl ?_
        refine dw_l (fun t => Φ t) (pc' := 48) (fun q1 => []) (fun q1 => q1) rfl (fun _ => rfl) (fun q1 => ?_)
        refine dw_g rfl ?_
        refine dg_s (pc' := 49) [.int (1 : Int32)] rfl (fun _ => rfl) rfl ?_
        exact dw_r (some (.inl (some (.int (1 : Int32)), q1))) rfl (fun _ => rfl) (kR _ _)
      · refine dw_g rfl ?_
        refine dg_s (pc' := 40) [.int (-12 : Int32)] rfl (fun _ => rfl) rfl ?_
        exact dw_r (some (.inl (some (.int (-12 : Int32)), m))) rfl (fun _ => rfl) (kR _ _)
    · refine dw_g rfl ?_
      refine dg_s (pc' := 27) [.int (-11 : Int32)] rfl (fun _ => rfl) rfl ?_
      exact dw_r (some (.inl (some (.int (-11 : Int32)), m))) rfl (fun _ => rfl) (kR _ _)
  · refine dw_g rfl ?_
    refine dg_s (pc' := 8) [.int (-1 : Int32)] rfl (fun _ => rfl) rfl ?_
    exact dw_r (some (.inl (some (.int (-1 : Int32)), m))) rfl (fun _ => rfl) (kR _ _)
def H_X9_lay : dc_H := fun As m k => match As with
  | [.ref x0, .int x1, .int x2, .int x3] => dc_let (d_X9_lay x0 x1 x2 x3 m) (fun q => k (some (.int q.1)) q.2)
  | _ => dc_kz
theorem H_X9_lay_ok {u : Nat} : dc_cok u 128 H_X9_lay := fun M' hG N As m k P hz hP => by
  obtain rfl : ab_M_X9_lay = M' := Option.some.inj hG
  unfold H_X9_lay at hP
  split at hP
  · rename_i x0 x1 x2 x3
    exact dc_pv.imp (k_X9_lay (Φ := fun (t : (Int32 × dc_M)) r m' => P (dc_let t (fun q => k (some (.int q.1)) q.2)) → P (k r m')) x0 x1 x2 x3 m (fun _ _ h => h) rfl rfl rfl rfl) (fun r m' h => h hP)
  · exact absurd hP hz
def C_X10_lay : List (Nat × dc_H) := [(146, H_X10_in)]
theorem CO_X10_lay {u : Nat} : dc_CO u C_X10_lay := dc_CO_cons H_X10_in_ok (dc_CO_nil)
def S_X10_lay : List (Nat × List Nat) := []
def d_X10_lay (x0 : Nat) (x1 : Int32) (x2 : Int32) (x3 : Int32) (m : dc_M) : (Int32 × dc_M) :=
  (if ¬ (Int32.toInt (d_X10_in (Int32.toInt64 x1) (0 : Int64) (3 : Int64) m)) = 0 then (if ¬ (Int32.toInt (m.1 (x0 + 35) (Int32.toNatClampNeg x1))) = (-4) then (if ¬ (Int32.toInt (d_X10_in (Int32.toInt64 x2) (0 : Int64) (Int32.toInt64 ((m.1 (x0 + 36) (Int32.toNatClampNeg x1)) - (1 : Int32))) m)) = 0 then (if ¬ (Int32.toInt (m.1 (x0 + 35) (Int32.toNatClampNeg x1))) = 0 then (if ¬ (Int32.toInt (m.1 (x0 + 35) (Int32.toNatClampNeg x1))) = 1 then ((1 : Int32), (dc_wi m (x0 + 37) (Int32.toNatClampNeg (((64 : Int32) * x1) + x2)) x3)) else ((1 : Int32), (dc_wi m (x0 + 37) (Int32.toNatClampNeg (((64 : Int32) * x1) + x2)) ((x3 <<< ((16 : Int32) &&& 31)) >>> ((16 : Int32) &&& 31))))) else ((1 : Int32), (dc_wi m (x0 + 37) (Int32.toNatClampNeg (((64 : Int32) * x1) + x2)) ((x3 <<< ((24 : Int32) &&& 31)) >>> ((24 : Int32) &&& 31))))) else ((-12 : Int32), m)) else ((-11 : Int32), m)) else ((-1 : Int32), m))
set_option maxHeartbeats 8000000 in
theorem k_X10_lay {u : Nat} {N : Nat} {Φ : (Int32 × dc_M) → Option Value → dc_M → Prop} (x0 : Nat) (x1 : Int32) (x2 : Int32) (x3 : Int32) (m : dc_M) (kR : ∀ (v : Int32) (m : dc_M), Φ ((v, m)) (some (.int v)) m)  {lv : ab_L} (f0 : ab_lk lv 0 = some (.ref x0)) (f1 : ab_lk lv 1 = some (.int x1)) (f2 : ab_lk lv 2 = some (.int x2)) (f3 : ab_lk lv 3 = some (.int x3)) : dc_pv u N ab_M_X10_lay 0 lv [] m (Φ (d_X10_lay x0 x1 x2 x3 m)) := by
  refine dc_pv.mono (dc_ok (C := C_X10_lay) (S := S_X10_lay) CO_X10_lay 400 0 [(0, .ref x0), (1, .int x1), (2, .int x2), (3, .int x3)] lv [] m (dc_sub_cons f0 (dc_sub_cons f1 (dc_sub_cons f2 (dc_sub_cons f3 (dc_sub_nil))))) ?_) (Nat.le_succ N)
  unfold d_X10_lay
  refine dg_s (pc' := 1) [.int x1] rfl (fun _ => rfl) rfl ?_
  refine dg_s (pc' := 2) [.long (Int32.toInt64 x1)] rfl (fun _ => rfl) rfl ?_
  refine dg_s (pc' := 3) [.long (0 : Int64), .long (Int32.toInt64 x1)] rfl (fun _ => rfl) rfl ?_
  refine dg_s (pc' := 6) [.long (3 : Int64), .long (0 : Int64), .long (Int32.toInt64 x1)] rfl (fun _ => rfl) rfl ?_
  refine dg_s (pc' := 9) [.int (d_X10_in (Int32.toInt64 x1) (0 : Int64) (3 : Int64) m)] rfl (fun _ => rfl) rfl ?_
  refine dw_if (fun t => Φ t) (¬ (Int32.toInt (d_X10_in (Int32.toInt64 x1) (0 : Int64) (3 : Int64) m)) = 0) [] 14 12 rfl (fun _ => rfl) (fun c0 => ?_) (fun c0 => ?_)
  · refine dw_g rfl ?_
    refine dg_s (pc' := 15) [.ref x0] rfl (fun _ => rfl) rfl ?_
    refine dg_s (pc' := 18) [.ref (x0 + 35)] rfl (fun _ => rfl) rfl ?_
    refine dg_s (pc' := 19) [.int x1, .ref (x0 + 35)] rfl (fun _ => rfl) rfl ?_
    refine dg_s (pc' := 20) [.int (m.1 (x0 + 35) (Int32.toNatClampNeg x1))] rfl (fun _ => rfl) rfl ?_
    refine dg_s (pc' := 22) [.int (-4 : Int32), .int (m.1 (x0 + 35) (Int32.toNatClampNeg x1))] rfl (fun _ => rfl) rfl ?_
    refine dw_if (fun t => Φ t) (¬ (Int32.toInt (m.1 (x0 + 35) (Int32.toNatClampNeg x1))) = (-4)) [] 28 25 rfl (fun _ => rfl) (fun c1 => ?_) (fun c1 => ?_)
    · refine dw_g rfl ?_
      refine dg_s (pc' := 29) [.int x2] rfl (fun _ => rfl) rfl ?_
      refine dg_s (pc' := 30) [.long (Int32.toInt64 x2)] rfl (fun _ => rfl) rfl ?_
      refine dg_s (pc' := 31) [.long (0 : Int64), .long (Int32.toInt64 x2)] rfl (fun _ => rfl) rfl ?_
      refine dg_s (pc' := 32) [.ref x0, .long (0 : Int64), .long (Int32.toInt64 x2)] rfl (fun _ => rfl) rfl ?_
      refine dg_s (pc' := 35) [.ref (x0 + 36), .long (0 : Int64), .long (Int32.toInt64 x2)] rfl (fun _ => rfl) rfl ?_
      refine dg_s (pc' := 36) [.int x1, .ref (x0 + 36), .long (0 : Int64), .long (Int32.toInt64 x2)] rfl (fun _ => rfl) rfl ?_
      refine dg_s (pc' := 37) [.int (m.1 (x0 + 36) (Int32.toNatClampNeg x1)), .long (0 : Int64), .long (Int32.toInt64 x2)] rfl (fun _ => rfl) rfl ?_
      refine dg_s (pc' := 38) [.int (1 : Int32), .int (m.1 (x0 + 36) (Int32.toNatClampNeg x1)), .long (0 : Int64), .long (Int32.toInt64 x2)] rfl (fun _ => rfl) rfl ?_
      refine dg_s (pc' := 39) [.int ((m.1 (x0 + 36) (Int32.toNatClampNeg x1)) - (1 : Int32)), .long (0 : Int64), .long (Int32.toInt64 x2)] rfl (fun _ => rfl) rfl ?_
      refine dg_s (pc' := 40) [.long (Int32.toInt64 ((m.1 (x0 + 36) (Int32.toNatClampNeg x1)) - (1 : Int32))), .long (0 : Int64), .long (Int32.toInt64 x2)] rfl (fun _ => rfl) rfl ?_
      refine dg_s (pc' := 43) [.int (d_X10_in (Int32.toInt64 x2) (0 : Int64) (Int32.toInt64 ((m.1 (x0 + 36) (Int32.toNatClampNeg x1)) - (1 : Int32))) m)] rfl (fun _ => rfl) rfl ?_
      refine dw_if (fun t => Φ t) (¬ (Int32.toInt (d_X10_in (Int32.toInt64 x2) (0 : Int64) (Int32.toInt64 ((m.1 (x0 + 36) (Int32.toNatClampNeg x1)) - (1 : Int32))) m)) = 0) [] 49 46 rfl (fun _ => rfl) (fun c2 => ?_) (fun c2 => ?_)
      · refine dw_g rfl ?_
        refine dg_s (pc' := 50) [.ref x0] rfl (fun _ => rfl) rfl ?_
        refine dg_s (pc' := 53) [.ref (x0 + 37)] rfl (fun _ => rfl) rfl ?_
        refine dg_s (pc' := 55) [.int (64 : Int32), .ref (x0 + 37)] rfl (fun _ => rfl) rfl ?_
        refine dg_s (pc' := 56) [.int x1, .int (64 : Int32), .ref (x0 + 37)] rfl (fun _ => rfl) rfl ?_
        refine dg_s (pc' := 57) [.int ((64 : Int32) * x1), .ref (x0 + 37)] rfl (fun _ => rfl) rfl ?_
        refine dg_s (pc' := 58) [.int x2, .int ((64 : Int32) * x1), .ref (x0 + 37)] rfl (fun _ => rfl) rfl ?_
        refine dg_s (pc' := 59) [.int (((64 : Int32) * x1) + x2), .ref (x0 + 37)] rfl (fun _ => rfl) rfl ?_
        refine dg_s (pc' := 60) [.ref x0, .int (((64 : Int32) * x1) + x2), .ref (x0 + 37)] rfl (fun _ => rfl) rfl ?_
        refine dg_s (pc' := 63) [.ref (x0 + 35), .int (((64 : Int32) * x1) + x2), .ref (x0 + 37)] rfl (fun _ => rfl) rfl ?_
        refine dg_s (pc' := 64) [.int x1, .ref (x0 + 35), .int (((64 : Int32) * x1) + x2), .ref (x0 + 37)] rfl (fun _ => rfl) rfl ?_
        refine dg_s (pc' := 65) [.int (m.1 (x0 + 35) (Int32.toNatClampNeg x1)), .int (((64 : Int32) * x1) + x2), .ref (x0 + 37)] rfl (fun _ => rfl) rfl ?_
        refine dw_if (fun t => Φ t) (¬ (Int32.toInt (m.1 (x0 + 35) (Int32.toNatClampNeg x1))) = 0) [.int (((64 : Int32) * x1) + x2), .ref (x0 + 37)] 78 68 rfl (fun _ => rfl) (fun c3 => ?_) (fun c3 => ?_)
        · refine dw_g rfl ?_
          refine dg_s (pc' := 79) [.ref x0, .int (((64 : Int32) * x1) + x2), .ref (x0 + 37)] rfl (fun _ => rfl) rfl ?_
          refine dg_s (pc' := 82) [.ref (x0 + 35), .int (((64 : Int32) * x1) + x2), .ref (x0 + 37)] rfl (fun _ => rfl) rfl ?_
          refine dg_s (pc' := 83) [.int x1, .ref (x0 + 35), .int (((64 : Int32) * x1) + x2), .ref (x0 + 37)] rfl (fun _ => rfl) rfl ?_
          refine dg_s (pc' := 84) [.int (m.1 (x0 + 35) (Int32.toNatClampNeg x1)), .int (((64 : Int32) * x1) + x2), .ref (x0 + 37)] rfl (fun _ => rfl) rfl ?_
          refine dg_s (pc' := 85) [.int (1 : Int32), .int (m.1 (x0 + 35) (Int32.toNatClampNeg x1)), .int (((64 : Int32) * x1) + x2), .ref (x0 + 37)] rfl (fun _ => rfl) rfl ?_
          refine dw_if (fun t => Φ t) (¬ (Int32.toInt (m.1 (x0 + 35) (Int32.toNatClampNeg x1))) = 1) [.int (((64 : Int32) * x1) + x2), .ref (x0 + 37)] 98 88 rfl (fun _ => rfl) (fun c4 => ?_) (fun c4 => ?_)
          · refine dw_g rfl ?_
            refine dg_s (pc' := 99) [.int x3, .int (((64 : Int32) * x1) + x2), .ref (x0 + 37)] rfl (fun _ => rfl) rfl ?_
            refine dg_m (pc' := 100) (dc_wi m (x0 + 37) (Int32.toNatClampNeg (((64 : Int32) * x1) + x2)) x3) [] rfl (fun _ => rfl) rfl ?_
            refine dg_s (pc' := 101) [.int (1 : Int32)] rfl (fun _ => rfl) rfl ?_
            exact dw_r (some (.inl (some (.int (1 : Int32)), (dc_wi m (x0 + 37) (Int32.toNatClampNeg (((64 : Int32) * x1) + x2)) x3)))) rfl (fun _ => rfl) (kR _ _)
          · refine dw_g rfl ?_
            refine dg_s (pc' := 89) [.int x3, .int (((64 : Int32) * x1) + x2), .ref (x0 + 37)] rfl (fun _ => rfl) rfl ?_
            refine dg_s (pc' := 91) [.int (16 : Int32), .int x3, .int (((64 : Int32) * x1) + x2), .ref (x0 + 37)] rfl (fun _ => rfl) rfl ?_
            refine dg_s (pc' := 92) [.int (x3 <<< ((16 : Int32) &&& 31)), .int (((64 : Int32) * x1) + x2), .ref (x0 + 37)] rfl (fun _ => rfl) rfl ?_
            refine dg_s (pc' := 94) [.int (16 : Int32), .int (x3 <<< ((16 : Int32) &&& 31)), .int (((64 : Int32) * x1) + x2), .ref (x0 + 37)] rfl (fun _ => rfl) rfl ?_
            refine dg_s (pc' := 95) [.int ((x3 <<< ((16 : Int32) &&& 31)) >>> ((16 : Int32) &&& 31)), .int (((64 : Int32) * x1) + x2), .ref (x0 + 37)] rfl (fun _ => rfl) rfl ?_
            refine dg_s (pc' := 99) [.int ((x3 <<< ((16 : Int32) &&& 31)) >>> ((16 : Int32) &&& 31)), .int (((64 : Int32) * x1) + x2), .ref (x0 + 37)] rfl (fun _ => rfl) rfl ?_
            refine dg_m (pc' := 100) (dc_wi m (x0 + 37) (Int32.toNatClampNeg (((64 : Int32) * x1) + x2)) ((x3 <<< ((16 : Int32) &&& 31)) >>> ((16 : Int32) &&& 31))) [] rfl (fun _ => rfl) rfl ?_
            refine dg_s (pc' := 101) [.int (1 : Int32)] rfl (fun _ => rfl) rfl ?_
            exact dw_r (some (.inl (some (.int (1 : Int32)), (dc_wi m (x0 + 37) (Int32.toNatClampNeg (((64 : Int32) * x1) + x2)) ((x3 <<< ((16 : Int32) &&& 31)) >>> ((16 : Int32) &&& 31)))))) rfl (fun _ => rfl) (kR _ _)
        · refine dw_g rfl ?_
          refine dg_s (pc' := 69) [.int x3, .int (((64 : Int32) * x1) + x2), .ref (x0 + 37)] rfl (fun _ => rfl) rfl ?_
          refine dg_s (pc' := 71) [.int (24 : Int32), .int x3, .int (((64 : Int32) * x1) + x2), .ref (x0 + 37)] rfl (fun _ => rfl) rfl ?_
          refine dg_s (pc' := 72) [.int (x3 <<< ((24 : Int32) &&& 31)), .int (((64 : Int32) * x1) + x2), .ref (x0 + 37)] rfl (fun _ => rfl) rfl ?_
          refine dg_s (pc' := 74) [.int (24 : Int32), .int (x3 <<< ((24 : Int32) &&& 31)), .int (((64 : Int32) * x1) + x2), .ref (x0 + 37)] rfl (fun _ => rfl) rfl ?_
          refine dg_s (pc' := 75) [.int ((x3 <<< ((24 : Int32) &&& 31)) >>> ((24 : Int32) &&& 31)), .int (((64 : Int32) * x1) + x2), .ref (x0 + 37)] rfl (fun _ => rfl) rfl ?_
          refine dg_s (pc' := 99) [.int ((x3 <<< ((24 : Int32) &&& 31)) >>> ((24 : Int32) &&& 31)), .int (((64 : Int32) * x1) + x2), .ref (x0 + 37)] rfl (fun _ => rfl) rfl ?_
          refine dg_m (pc' := 100) (dc_wi m (x0 + 37) (Int32.toNatClampNeg (((64 : Int32) * x1) + x2)) ((x3 <<< ((24 : Int32) &&& 31)) >>> ((24 : Int32) &&& 31))) [] rfl (fun _ => rfl) rfl ?_
          refine dg_s (pc' := 101) [.int (1 : Int32)] rfl (fun _ => rfl) rfl ?_
          exact dw_r (some (.inl (some (.int (1 : Int32)), (dc_wi m (x0 + 37) (Int32.toNatClampNeg (((64 : Int32) * x1) + x2)) ((x3 <<< ((24 : Int32) &&& 31)) >>> ((24 : Int32) &&& 31)))))) rfl (fun _ => rfl) (kR _ _)
      · refine dw_g rfl ?_
        refine dg_s (pc' := 48) [.int (-12 : Int32)] rfl (fun _ => rfl) rfl ?_
        exact dw_r (some (.inl (some (.int (-12 : Int32)), m))) rfl (fun _ => rfl) (kR _ _)
    · refine dw_g rfl ?_
      refine dg_s (pc' := 27) [.int (-11 : Int32)] rfl (fun _ => rfl) rfl ?_
      exact dw_r (some (.inl (some (.int (-11 : Int32)), m))) rfl (fun _ => rfl) (kR _ _)
  · refine dw_g rfl ?_
    refine dg_s (pc' := 13) [.int (-1 : Int32)] rfl (fun _ => rfl) rfl ?_
    exact dw_r (some (.inl (some (.int (-1 : Int32)), m))) rfl (fun _ => rfl) (kR _ _)
def H_X10_lay : dc_H := fun As m k => match As with
  | [.ref x0, .int x1, .int x2, .int x3] => dc_let (d_X10_lay x0 x1 x2 x3 m) (fun q => k (some (.int q.1)) q.2)
  | _ => dc_kz
theorem H_X10_lay_ok {u : Nat} : dc_cok u 226 H_X10_lay := fun M' hG N As m k P hz hP => by
  obtain rfl : ab_M_X10_lay = M' := Option.some.inj hG
  unfold H_X10_lay at hP
  split at hP
  · rename_i x0 x1 x2 x3
    exact dc_pv.imp (k_X10_lay (Φ := fun (t : (Int32 × dc_M)) r m' => P (dc_let t (fun q => k (some (.int q.1)) q.2)) → P (k r m')) x0 x1 x2 x3 m (fun _ _ h => h) rfl rfl rfl rfl) (fun r m' h => h hP)
  · exact absurd hP hz
