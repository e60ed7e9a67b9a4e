/-! ===== methods as functions (written by a program) ===== -/
noncomputable def C_X9_gatherSums : List (Nat × dc_H) := [(93, H_X8_gather)]
theorem CO_X9_gatherSums {u : Nat} : dc_CO u C_X9_gatherSums := dc_CO_cons H_X8_gather_ok (dc_CO_nil)
def S_X9_gatherSums : List (Nat × List Nat) := []
noncomputable def d_X9_gatherSums (x0 : Nat) (m : dc_M) : Option dc_M :=
  (if ¬ (Int32.toInt (m.1 x0 13)) = 0 then some (m) else ((d_X8_gather (x0 + 14) (m.1 (m.2.2.1 x0 7) 0) (x0 + 3) m).bind (fun q1 => some ((dc_wi q1 x0 13 (1 : Int32))))))
set_option maxHeartbeats 8000000 in
theorem k_X9_gatherSums {u : Nat} {N : Nat} {Φ : (Option dc_M) → Option Value → dc_M → Prop} (x0 : Nat) (m : dc_M) (kR : ∀  (m : dc_M), Φ (some (m)) (none) m)  {lv : ab_L} (f0 : ab_lk lv 0 = some (.ref x0)) : dc_pv u N ab_M_X9_gatherSums 0 lv [] m (Φ (d_X9_gatherSums x0 m)) := by
  refine dc_pv.mono (dc_ok (C := C_X9_gatherSums) (S := S_X9_gatherSums) CO_X9_gatherSums 400 0 [(0, .ref x0)] lv [] m (dc_sub_cons f0 (dc_sub_nil)) ?_) (Nat.le_succ N)
  unfold d_X9_gatherSums
  refine dg_s (pc' := 1) [.ref x0] rfl (fun _ => rfl) rfl ?_
  refine dg_s (pc' := 4) [.int (m.1 x0 13)] rfl (fun _ => rfl) rfl ?_
  refine dw_if (fun t => Φ t) (¬ (Int32.toInt (m.1 x0 13)) = 0) [] 30 7 rfl (fun _ => rfl) (fun c0 => ?_) (fun c0 => ?_)
  · refine dw_g rfl ?_
    exact dw_r (some (.inl (none, m))) rfl (fun _ => rfl) (kR _)
  · refine dw_g rfl ?_
    refine dg_s (pc' := 8) [.ref x0] rfl (fun _ => rfl) rfl ?_
    refine dg_s (pc' := 11) [.ref (x0 + 14)] rfl (fun _ => rfl) rfl ?_
    refine dg_s (pc' := 12) [.ref x0, .ref (x0 + 14)] rfl (fun _ => rfl) rfl ?_
    refine dg_s (pc' := 15) [.ref (m.2.2.1 x0 7), .ref (x0 + 14)] rfl (fun _ => rfl) rfl ?_
    refine dg_s (pc' := 18) [.int (m.1 (m.2.2.1 x0 7) 0), .ref (x0 + 14)] rfl (fun _ => rfl) rfl ?_
    refine dg_s (pc' := 19) [.ref x0, .int (m.1 (m.2.2.1 x0 7) 0), .ref (x0 + 14)] rfl (fun _ => rfl) rfl ?_
    refine dg_s (pc' := 22) [.ref (x0 + 3), .int (m.1 (m.2.2.1 x0 7) 0), .ref (x0 + 14)] rfl (fun _ => rfl) rfl ?_
    refine dw_b (fun t => Φ t) (pc' := 25) (fun q1 => []) (fun q1 => q1) rfl (fun _ => rfl) (fun q1 => ?_)
    refine dw_g rfl ?_
    refine dg_s (pc' := 26) [.ref x0] rfl (fun _ => rfl) rfl ?_
    refine dg_s (pc' := 27) [.int (1 : Int32), .ref x0] rfl (fun _ => rfl) rfl ?_
    refine dg_m (pc' := 30) (dc_wi q1 x0 13 (1 : Int32)) [] rfl (fun _ => rfl) rfl ?_
    exact dw_r (some (.inl (none, (dc_wi q1 x0 13 (1 : Int32))))) rfl (fun _ => rfl) (kR _)
noncomputable def H_X9_gatherSums : dc_H := fun As m k => match As with
  | [.ref x0] => (d_X9_gatherSums x0 m).bind (fun q => k (none) q)
  | _ => dc_kz
theorem H_X9_gatherSums_ok {u : Nat} : dc_cok u 137 H_X9_gatherSums := fun M' hG N As m k P hz hP => by
  obtain rfl : ab_M_X9_gatherSums = M' := Option.some.inj hG
  unfold H_X9_gatherSums at hP
  split at hP
  · rename_i x0
    exact dc_pv.imp (k_X9_gatherSums (Φ := fun (t : Option dc_M) r m' => P (t.bind (fun q => k (none) q)) → P (k r m')) x0 m (fun _ h => h) rfl) (fun r m' h => h hP)
  · exact absurd hP hz
noncomputable def C_X9_aim : List (Nat × dc_H) := [(25, H_X3_hasWire), (137, H_X9_gatherSums), (135, H_X9_isRight)]
theorem CO_X9_aim {u : Nat} : dc_CO u C_X9_aim := dc_CO_cons H_X3_hasWire_ok (dc_CO_cons H_X9_gatherSums_ok (dc_CO_cons H_X9_isRight_ok (dc_CO_nil)))
def S_X9_aim : List (Nat × List Nat) := [(67, [0, 1, 2]), (91, [3]), (105, [3, 4])]
noncomputable def d_X9_aim_b105 (x3 : Int32) (x4 : Int32) (m : dc_M) : Option (Int32 × dc_M) :=
  (if (Int32.toInt x3) = 0 then (if (Int32.toInt x4) = 0 then some (((-4 : Int32), m)) else some (((0 : Int32), m))) else some (((1 : Int32), m)))
set_option maxHeartbeats 8000000 in
theorem k_X9_aim_b105 {u : Nat} {N : Nat} {Φ : (Option (Int32 × dc_M)) → Option Value → dc_M → Prop} (x3 : Int32) (x4 : Int32) (m : dc_M) (kR : ∀ (v : Int32) (m : dc_M), Φ (some ((v, m))) (some (.int v)) m)  {lv : ab_L} (f3 : ab_lk lv 3 = some (.int x3)) (f4 : ab_lk lv 4 = some (.int x4)) : dc_pv u N ab_M_X9_aim 105 lv [] m (Φ (d_X9_aim_b105 x3 x4 m)) := by
  refine dc_pv.mono (dc_ok (C := C_X9_aim) (S := S_X9_aim) CO_X9_aim 400 105 [(3, .int x3), (4, .int x4)] lv [] m (dc_sub_cons f3 (dc_sub_cons f4 (dc_sub_nil))) ?_) (Nat.le_succ N)
  unfold d_X9_aim_b105
  refine dg_s (pc' := 106) [.int x3] rfl (fun _ => rfl) rfl ?_
  refine dw_if (fun t => Φ t) ((Int32.toInt x3) = 0) [] 113 109 rfl (fun _ => rfl) (fun c0 => ?_) (fun c0 => ?_)
  · refine dw_g rfl ?_
    refine dg_s (pc' := 115) [.int x4] rfl (fun _ => rfl) rfl ?_
    refine dw_if (fun t => Φ t) ((Int32.toInt x4) = 0) [] 122 118 rfl (fun _ => rfl) (fun c1 => ?_) (fun c1 => ?_)
    · refine dw_g rfl ?_
      refine dg_s (pc' := 124) [.int (-4 : Int32)] rfl (fun _ => rfl) rfl ?_
      exact dw_r (some (.inl (some (.int (-4 : Int32)), m))) rfl (fun _ => rfl) (kR _ _)
    · refine dw_g rfl ?_
      refine dg_s (pc' := 119) [.int (0 : Int32)] rfl (fun _ => rfl) rfl ?_
      refine dg_s (pc' := 124) [.int (0 : Int32)] rfl (fun _ => rfl) rfl ?_
      exact dw_r (some (.inl (some (.int (0 : Int32)), m))) rfl (fun _ => rfl) (kR _ _)
  · refine dw_g rfl ?_
    refine dg_s (pc' := 110) [.int (1 : Int32)] rfl (fun _ => rfl) rfl ?_
    refine dg_s (pc' := 124) [.int (1 : Int32)] rfl (fun _ => rfl) rfl ?_
    exact dw_r (some (.inl (some (.int (1 : Int32)), m))) rfl (fun _ => rfl) (kR _ _)
noncomputable def d_X9_aim_b91 (x3 : Int32) (s0 : Int32) (m : dc_M) : Option (Int32 × dc_M) :=
  (if (Int32.toInt x3) = 0 then (d_X9_aim_b105 x3 s0 m) else (if (Int32.toInt s0) = 0 then (d_X9_aim_b105 x3 s0 m) else some (((-5 : Int32), m))))
set_option maxHeartbeats 8000000 in
theorem k_X9_aim_b91 {u : Nat} {N : Nat} {Φ : (Option (Int32 × dc_M)) → Option Value → dc_M → Prop} (x3 : Int32) (s0 : Int32) (m : dc_M) (kR : ∀ (v : Int32) (m : dc_M), Φ (some ((v, m))) (some (.int v)) m)  {lv : ab_L} (f3 : ab_lk lv 3 = some (.int x3)) : dc_pv u N ab_M_X9_aim 91 lv [.int s0] m (Φ (d_X9_aim_b91 x3 s0 m)) := by
  refine dc_pv.mono (dc_ok (C := C_X9_aim) (S := S_X9_aim) CO_X9_aim 400 91 [(3, .int x3)] lv [.int s0] m (dc_sub_cons f3 (dc_sub_nil)) ?_) (Nat.le_succ N)
  unfold d_X9_aim_b91
  refine dg_L (pc' := 93) [(4, .int s0), (3, .int x3)] [] rfl (fun _ => rfl) rfl ?_
  refine dg_s (pc' := 94) [.int x3] rfl (fun _ => rfl) rfl ?_
  refine dw_if (fun t => Φ t) ((Int32.toInt x3) = 0) [] 105 97 rfl (fun _ => rfl) (fun c0 => ?_) (fun c0 => ?_)
  · exact dw_j rfl (fun lv1 hv => k_X9_aim_b105 (Φ := (fun t => Φ t)) x3 s0 m (fun _a _b => kR _a _b)  (hv.1 _ rfl) (hv.2.1 _ rfl))
  · refine dw_g rfl ?_
    refine dg_s (pc' := 99) [.int s0] rfl (fun _ => rfl) rfl ?_
    refine dw_if (fun t => Φ t) ((Int32.toInt s0) = 0) [] 105 102 rfl (fun _ => rfl) (fun c1 => ?_) (fun c1 => ?_)
    · exact dw_j rfl (fun lv1 hv => k_X9_aim_b105 (Φ := (fun t => Φ t)) x3 s0 m (fun _a _b => kR _a _b)  (hv.1 _ rfl) (hv.2.1 _ rfl))
    · refine dw_g rfl ?_
      refine dg_s (pc' := 104) [.int (-5 : Int32)] rfl (fun _ => rfl) rfl ?_
      exact dw_r (some (.inl (some (.int (-5 : Int32)), m))) rfl (fun _ => rfl) (kR _ _)
noncomputable def d_X9_aim_b67 (x0 : Nat) (x1 : Int32) (x2 : Int32) (s0 : Int32) (m : dc_M) : Option (Int32 × dc_M) :=
  (if (Int32.toInt (lg_cmp (((m.2.1 ((x0 + 14) + 2) (Int32.toNatClampNeg x1)) >>> (Int32.toInt64 x2 &&& 63)) &&& (1 : Int64)) (0 : Int64))) = 0 then (d_X9_aim_b91 s0 (0 : Int32) m) else (d_X9_aim_b91 s0 (1 : Int32) m))
set_option maxHeartbeats 8000000 in
theorem k_X9_aim_b67 {u : Nat} {N : Nat} {Φ : (Option (Int32 × dc_M)) → Option Value → dc_M → Prop} (x0 : Nat) (x1 : Int32) (x2 : Int32) (s0 : Int32) (m : dc_M) (kR : ∀ (v : Int32) (m : dc_M), Φ (some ((v, m))) (some (.int v)) m)  {lv : ab_L} (f0 : ab_lk lv 0 = some (.ref x0)) (f1 : ab_lk lv 1 = some (.int x1)) (f2 : ab_lk lv 2 = some (.int x2)) : dc_pv u N ab_M_X9_aim 67 lv [.int s0] m (Φ (d_X9_aim_b67 x0 x1 x2 s0 m)) := by
  refine dc_pv.mono (dc_ok (C := C_X9_aim) (S := S_X9_aim) CO_X9_aim 400 67 [(0, .ref x0), (1, .int x1), (2, .int x2)] lv [.int s0] m (dc_sub_cons f0 (dc_sub_cons f1 (dc_sub_cons f2 (dc_sub_nil)))) ?_) (Nat.le_succ N)
  unfold d_X9_aim_b67
  refine dg_L (pc' := 68) [(3, .int s0), (0, .ref x0), (1, .int x1), (2, .int x2)] [] rfl (fun _ => rfl) rfl ?_
  refine dg_s (pc' := 69) [.ref x0] rfl (fun _ => rfl) rfl ?_
  refine dg_s (pc' := 72) [.ref (x0 + 14)] rfl (fun _ => rfl) rfl ?_
  refine dg_s (pc' := 75) [.ref ((x0 + 14) + 2)] rfl (fun _ => rfl) rfl ?_
  refine dg_s (pc' := 76) [.int x1, .ref ((x0 + 14) + 2)] rfl (fun _ => rfl) rfl ?_
  refine dg_s (pc' := 77) [.long (m.2.1 ((x0 + 14) + 2) (Int32.toNatClampNeg x1))] rfl (fun _ => rfl) rfl ?_
  refine dg_s (pc' := 78) [.int x2, .long (m.2.1 ((x0 + 14) + 2) (Int32.toNatClampNeg x1))] rfl (fun _ => rfl) rfl ?_
  refine dg_s (pc' := 79) [.long ((m.2.1 ((x0 + 14) + 2) (Int32.toNatClampNeg x1)) >>> (Int32.toInt64 x2 &&& 63))] rfl (fun _ => rfl) rfl ?_
  refine dg_s (pc' := 80) [.long (1 : Int64), .long ((m.2.1 ((x0 + 14) + 2) (Int32.toNatClampNeg x1)) >>> (Int32.toInt64 x2 &&& 63))] rfl (fun _ => rfl) rfl ?_
  refine dg_s (pc' := 81) [.long (((m.2.1 ((x0 + 14) + 2) (Int32.toNatClampNeg x1)) >>> (Int32.toInt64 x2 &&& 63)) &&& (1 : Int64))] rfl (fun _ => rfl) rfl ?_
  refine dg_s (pc' := 82) [.long (0 : Int64), .long (((m.2.1 ((x0 + 14) + 2) (Int32.toNatClampNeg x1)) >>> (Int32.toInt64 x2 &&& 63)) &&& (1 : Int64))] rfl (fun _ => rfl) rfl ?_
  refine dg_s (pc' := 83) [.int (lg_cmp (((m.2.1 ((x0 + 14) + 2) (Int32.toNatClampNeg x1)) >>> (Int32.toInt64 x2 &&& 63)) &&& (1 : Int64)) (0 : Int64))] rfl (fun _ => rfl) rfl ?_
  refine dw_if (fun t => Φ t) ((Int32.toInt (lg_cmp (((m.2.1 ((x0 + 14) + 2) (Int32.toNatClampNeg x1)) >>> (Int32.toInt64 x2 &&& 63)) &&& (1 : Int64)) (0 : Int64))) = 0) [] 90 86 rfl (fun _ => rfl) (fun c0 => ?_) (fun c0 => ?_)
  · refine dw_g rfl ?_
    refine dw_s (pc' := 91) [.int (0 : Int32)] rfl (fun _ => rfl) ?_
    exact dw_j rfl (fun lv1 hv => k_X9_aim_b91 (Φ := (fun t => Φ t)) s0 (0 : Int32) m (fun _a _b => kR _a _b)  (hv.1 _ rfl))
  · refine dw_g rfl ?_
    refine dg_s (pc' := 87) [.int (1 : Int32)] rfl (fun _ => rfl) rfl ?_
    refine dw_s (pc' := 91) [.int (1 : Int32)] rfl (fun _ => rfl) ?_
    exact dw_j rfl (fun lv1 hv => k_X9_aim_b91 (Φ := (fun t => Φ t)) s0 (1 : Int32) m (fun _a _b => kR _a _b)  (hv.1 _ rfl))
noncomputable def d_X9_aim (x0 : Nat) (x1 : Int32) (x2 : Int32) (m : dc_M) : Option (Int32 × dc_M) :=
  (if (Int32.toInt (d_X3_hasWire (m.2.2.1 x0 7) x1 m)) = 0 then some (((-1 : Int32), m)) else (if (Int32.toInt x2) < 0 then some (((-1 : Int32), m)) else (if (Int32.toInt x2) < (Int32.toInt ((1 : Int32) <<< ((m.1 (m.2.2.1 x0 7) 0) &&& 31))) then ((d_X9_isRight x0 m).bind (fun q1 => (if ¬ (Int32.toInt q1.1) = 0 then ((d_X9_gatherSums x0 q1.2).bind (fun q2 => (if (Int32.toInt (lg_cmp (((q2.2.1 ((x0 + 14) + 1) (Int32.toNatClampNeg x1)) >>> (Int32.toInt64 x2 &&& 63)) &&& (1 : Int64)) (0 : Int64))) = 0 then (d_X9_aim_b67 x0 x1 x2 (0 : Int32) q2) else (d_X9_aim_b67 x0 x1 x2 (1 : Int32) q2)))) else some (((-2 : Int32), q1.2))))) else some (((-1 : Int32), m)))))
set_option maxHeartbeats 8000000 in
theorem k_X9_aim {u : Nat} {N : Nat} {Φ : (Option (Int32 × dc_M)) → Option Value → dc_M → Prop} (x0 : Nat) (x1 : Int32) (x2 : Int32) (m : dc_M) (kR : ∀ (v : Int32) (m : dc_M), Φ (some ((v, m))) (some (.int v)) m)  {lv : ab_L} (f0 : ab_lk lv 0 = some (.ref x0)) (f1 : ab_lk lv 1 = some (.int x1)) (f2 : ab_lk lv 2 = some (.int x2)) : dc_pv u N ab_M_X9_aim 0 lv [] m (Φ (d_X9_aim x0 x1 x2 m)) := by
  refine dc_pv.mono (dc_ok (C := C_X9_aim) (S := S_X9_aim) CO_X9_aim 400 0 [(0, .ref x0), (1, .int x1), (2, .int x2)] lv [] m (dc_sub_cons f0 (dc_sub_cons f1 (dc_sub_cons f2 (dc_sub_nil)))) ?_) (Nat.le_succ N)
  unfold d_X9_aim
  refine dg_s (pc' := 1) [.ref x0] rfl (fun _ => rfl) rfl ?_
  refine dg_s (pc' := 4) [.ref (m.2.2.1 x0 7)] rfl (fun _ => rfl) rfl ?_
  refine dg_s (pc' := 5) [.int x1, .ref (m.2.2.1 x0 7)] rfl (fun _ => rfl) rfl ?_
  refine dg_s (pc' := 8) [.int (d_X3_hasWire (m.2.2.1 x0 7) x1 m)] rfl (fun _ => rfl) rfl ?_
  refine dw_if (fun t => Φ t) ((Int32.toInt (d_X3_hasWire (m.2.2.1 x0 7) x1 m)) = 0) [] 28 11 rfl (fun _ => rfl) (fun c0 => ?_) (fun c0 => ?_)
  · refine dw_g rfl ?_
    refine dg_s (pc' := 29) [.int (-1 : Int32)] rfl (fun _ => rfl) rfl ?_
    exact dw_r (some (.inl (some (.int (-1 : Int32)), m))) rfl (fun _ => rfl) (kR _ _)
  · refine dw_g rfl ?_
    refine dg_s (pc' := 12) [.int x2] rfl (fun _ => rfl) rfl ?_
    refine dw_if (fun t => Φ t) ((Int32.toInt x2) < 0) [] 28 15 rfl (fun _ => rfl) (fun c1 => ?_) (fun c1 => ?_)
    · refine dw_g rfl ?_
      refine dg_s (pc' := 29) [.int (-1 : Int32)] rfl (fun _ => rfl) rfl ?_
      exact dw_r (some (.inl (some (.int (-1 : Int32)), m))) rfl (fun _ => rfl) (kR _ _)
    · refine dw_g rfl ?_
      refine dg_s (pc' := 16) [.int x2] rfl (fun _ => rfl) rfl ?_
      refine dg_s (pc' := 17) [.int (1 : Int32), .int x2] rfl (fun _ => rfl) rfl ?_
      refine dg_s (pc' := 18) [.ref x0, .int (1 : Int32), .int x2] rfl (fun _ => rfl) rfl ?_
      refine dg_s (pc' := 21) [.ref (m.2.2.1 x0 7), .int (1 : Int32), .int x2] rfl (fun _ => rfl) rfl ?_
      refine dg_s (pc' := 24) [.int (m.1 (m.2.2.1 x0 7) 0), .int (1 : Int32), .int x2] rfl (fun _ => rfl) rfl ?_
      refine dg_s (pc' := 25) [.int ((1 : Int32) <<< ((m.1 (m.2.2.1 x0 7) 0) &&& 31)), .int x2] rfl (fun _ => rfl) rfl ?_
      refine dw_if (fun t => Φ t) ((Int32.toInt x2) < (Int32.toInt ((1 : Int32) <<< ((m.1 (m.2.2.1 x0 7) 0) &&& 31)))) [] 30 28 rfl (fun _ => rfl) (fun c2 => ?_) (fun c2 => ?_)
      · refine dw_g rfl ?_
        refine dg_s (pc' := 31) [.ref x0] rfl (fun _ => rfl) rfl ?_
        refine dw_b (fun t => Φ t) (pc' := 34) (fun q1 => [.int q1.1]) (fun q1 => q1.2) rfl (fun _ => rfl) (fun q1 => ?_)
        refine dw_g rfl ?_
        refine dw_if (fun t => Φ t) (¬ (Int32.toInt q1.1) = 0) [] 40 37 rfl (fun _ => rfl) (fun c3 => ?_) (fun c3 => ?_)
        · refine dw_g rfl ?_
          refine dg_s (pc' := 41) [.ref x0] rfl (fun _ => rfl) rfl ?_
          refine dw_b (fun t => Φ t) (pc' := 44) (fun q2 => []) (fun q2 => q2) rfl (fun _ => rfl) (fun q2 => ?_)
          refine dw_g rfl ?_
          refine dg_s (pc' := 45) [.ref x0] rfl (fun _ => rfl) rfl ?_
          refine dg_s (pc' := 48) [.ref (x0 + 14)] rfl (fun _ => rfl) rfl ?_
          refine dg_s (pc' := 51) [.ref ((x0 + 14) + 1)] rfl (fun _ => rfl) rfl ?_
          refine dg_s (pc' := 52) [.int x1, .ref ((x0 + 14) + 1)] rfl (fun _ => rfl) rfl ?_
          refine dg_s (pc' := 53) [.long (q2.2.1 ((x0 + 14) + 1) (Int32.toNatClampNeg x1))] rfl (fun _ => rfl) rfl ?_
          refine dg_s (pc' := 54) [.int x2, .long (q2.2.1 ((x0 + 14) + 1) (Int32.toNatClampNeg x1))] rfl (fun _ => rfl) rfl ?_
          refine dg_s (pc' := 55) [.long ((q2.2.1 ((x0 + 14) + 1) (Int32.toNatClampNeg x1)) >>> (Int32.toInt64 x2 &&& 63))] rfl (fun _ => rfl) rfl ?_
          refine dg_s (pc' := 56) [.long (1 : Int64), .long ((q2.2.1 ((x0 + 14) + 1) (Int32.toNatClampNeg x1)) >>> (Int32.toInt64 x2 &&& 63))] rfl (fun _ => rfl) rfl ?_
          refine dg_s (pc' := 57) [.long (((q2.2.1 ((x0 + 14) + 1) (Int32.toNatClampNeg x1)) >>> (Int32.toInt64 x2 &&& 63)) &&& (1 : Int64))] rfl (fun _ => rfl) rfl ?_
          refine dg_s (pc' := 58) [.long (0 : Int64), .long (((q2.2.1 ((x0 + 14) + 1) (Int32.toNatClampNeg x1)) >>> (Int32.toInt64 x2 &&& 63)) &&& (1 : Int64))] rfl (fun _ => rfl) rfl ?_
          refine dg_s (pc' := 59) [.int (lg_cmp (((q2.2.1 ((x0 + 14) + 1) (Int32.toNatClampNeg x1)) >>> (Int32.toInt64 x2 &&& 63)) &&& (1 : Int64)) (0 : Int64))] rfl (fun _ => rfl) rfl ?_
          refine dw_if (fun t => Φ t) ((Int32.toInt (lg_cmp (((q2.2.1 ((x0 + 14) + 1) (Int32.toNatClampNeg x1)) >>> (Int32.toInt64 x2 &&& 63)) &&& (1 : Int64)) (0 : Int64))) = 0) [] 66 62 rfl (fun _ => rfl) (fun c4 => ?_) (fun c4 => ?_)
          · refine dw_g rfl ?_
            refine dw_s (pc' := 67) [.int (0 : Int32)] rfl (fun _ => rfl) ?_
            exact dw_j rfl (fun lv1 hv => k_X9_aim_b67 (Φ := (fun t => Φ t)) x0 x1 x2 (0 : Int32) q2 (fun _a _b => kR _a _b)  (hv.1 _ rfl) (hv.2.1 _ rfl) (hv.2.2.1 _ rfl))
          · refine dw_g rfl ?_
            refine dg_s (pc' := 63) [.int (1 : Int32)] rfl (fun _ => rfl) rfl ?_
            refine dw_s (pc' := 67) [.int (1 : Int32)] rfl (fun _ => rfl) ?_
            exact dw_j rfl (fun lv1 hv => k_X9_aim_b67 (Φ := (fun t => Φ t)) x0 x1 x2 (1 : Int32) q2 (fun _a _b => kR _a _b)  (hv.1 _ rfl) (hv.2.1 _ rfl) (hv.2.2.1 _ rfl))
        · refine dw_g rfl ?_
          refine dg_s (pc' := 39) [.int (-2 : Int32)] rfl (fun _ => rfl) rfl ?_
          exact dw_r (some (.inl (some (.int (-2 : Int32)), q1.2))) rfl (fun _ => rfl) (kR _ _)
      · refine dw_g rfl ?_
        refine dg_s (pc' := 29) [.int (-1 : Int32)] rfl (fun _ => rfl) rfl ?_
        exact dw_r (some (.inl (some (.int (-1 : Int32)), m))) rfl (fun _ => rfl) (kR _ _)
noncomputable def H_X9_aim : dc_H := fun As m k => match As with
  | [.ref x0, .int x1, .int x2] => (d_X9_aim x0 x1 x2 m).bind (fun q => k (some (.int q.1)) q.2)
  | _ => dc_kz
theorem H_X9_aim_ok {u : Nat} : dc_cok u 114 H_X9_aim := fun M' hG N As m k P hz hP => by
  obtain rfl : ab_M_X9_aim = M' := Option.some.inj hG
  unfold H_X9_aim at hP
  split at hP
  · rename_i x0 x1 x2
    exact dc_pv.imp (k_X9_aim (Φ := fun (t : Option (Int32 × dc_M)) r m' => P (t.bind (fun q => k (some (.int q.1)) q.2)) → P (k r m')) x0 x1 x2 m (fun _ _ h => h) rfl rfl rfl) (fun r m' h => h hP)
  · exact absurd hP hz
def C_X10_isWire : List (Nat × dc_H) := [(146, H_X10_in)]
theorem CO_X10_isWire {u : Nat} : dc_CO u C_X10_isWire := dc_CO_cons H_X10_in_ok (dc_CO_nil)
def S_X10_isWire : List (Nat × List Nat) := []
def d_X10_isWire (x0 : Nat) (x1 : Int32) (m : dc_M) : Int32 :=
  (d_X10_in (Int32.toInt64 x1) (0 : Int64) (Int32.toInt64 ((m.1 x0 0) - (1 : Int32))) m)
set_option maxHeartbeats 8000000 in
theorem k_X10_isWire {u : Nat} {N : Nat} {Φ : Int32 → Option Value → dc_M → Prop} (x0 : Nat) (x1 : Int32) (m : dc_M) (kR : ∀ (v : Int32), Φ (v) (some (.int v)) m)  {lv : ab_L} (f0 : ab_lk lv 0 = some (.ref x0)) (f1 : ab_lk lv 1 = some (.int x1)) : dc_pv u N ab_M_X10_isWire 0 lv [] m (Φ (d_X10_isWire x0 x1 m)) := by
  refine dc_pv.mono (dc_ok (C := C_X10_isWire) (S := S_X10_isWire) CO_X10_isWire 400 0 [(0, .ref x0), (1, .int x1)] lv [] m (dc_sub_cons f0 (dc_sub_cons f1 (dc_sub_nil))) ?_) (Nat.le_succ N)
  unfold d_X10_isWire
  refine dg_s (pc' := 1) [.int x1] rfl (fun _ => rfl) rfl ?_
  refine dg_s (pc' := 2) [.long (Int32.toInt64 x1)] rfl (fun _ => rfl) rfl ?_
  refine dg_s (pc' := 3) [.long (0 : Int64), .long (Int32.toInt64 x1)] rfl (fun _ => rfl) rfl ?_
  refine dg_s (pc' := 4) [.ref x0, .long (0 : Int64), .long (Int32.toInt64 x1)] rfl (fun _ => rfl) rfl ?_
  refine dg_s (pc' := 7) [.int (m.1 x0 0), .long (0 : Int64), .long (Int32.toInt64 x1)] rfl (fun _ => rfl) rfl ?_
  refine dg_s (pc' := 8) [.int (1 : Int32), .int (m.1 x0 0), .long (0 : Int64), .long (Int32.toInt64 x1)] rfl (fun _ => rfl) rfl ?_
  refine dg_s (pc' := 9) [.int ((m.1 x0 0) - (1 : Int32)), .long (0 : Int64), .long (Int32.toInt64 x1)] rfl (fun _ => rfl) rfl ?_
  refine dg_s (pc' := 10) [.long (Int32.toInt64 ((m.1 x0 0) - (1 : Int32))), .long (0 : Int64), .long (Int32.toInt64 x1)] rfl (fun _ => rfl) rfl ?_
  refine dg_s (pc' := 13) [.int (d_X10_in (Int32.toInt64 x1) (0 : Int64) (Int32.toInt64 ((m.1 x0 0) - (1 : Int32))) m)] rfl (fun _ => rfl) rfl ?_
  exact dw_r (some (.inl (some (.int (d_X10_in (Int32.toInt64 x1) (0 : Int64) (Int32.toInt64 ((m.1 x0 0) - (1 : Int32))) m)), m))) rfl (fun _ => rfl) (kR _)
def H_X10_isWire : dc_H := fun As m k => match As with
  | [.ref x0, .int x1] => k (some (.int (d_X10_isWire x0 x1 m))) m
  | _ => dc_kz
theorem H_X10_isWire_ok {u : Nat} : dc_cok u 162 H_X10_isWire := fun M' hG N As m k P hz hP => by
  obtain rfl : ab_M_X10_isWire = M' := Option.some.inj hG
  unfold H_X10_isWire at hP
  split at hP
  · rename_i x0 x1
    exact dc_pv.imp (k_X10_isWire (Φ := fun (t : Int32) r m' => P (k (some (.int t)) m) → P (k r m')) x0 x1 m (fun _  h => h) rfl rfl) (fun r m' h => h hP)
  · exact absurd hP hz
noncomputable def C_X10_layAims : List (Nat × dc_H) := [(180, H_X10_aims)]
theorem CO_X10_layAims {u : Nat} : dc_CO u C_X10_layAims := dc_CO_cons H_X10_aims_ok (dc_CO_nil)
def S_X10_layAims : List (Nat × List Nat) := [(12, [0, 1, 2])]
noncomputable def d_X10_layAims_l12b (x0 : Nat) (x1 : Int32) (x2 : Int32) (m : dc_M) : Option ((Int32 × dc_M) ⊕ dc_M) :=
  (if (Int32.toInt (m.1 x0 32)) ≤ (Int32.toInt x2) then some (Sum.inr (m)) else ((d_X10_aims x0 x2 m).bind (fun q1 => (if ¬ (Int32.toInt ((q1 >>> (x1 &&& 31)) &&& (1 : Int32))) = 1 then some (Sum.inl ((x2 + (1 : Int32)), (dc_wl m x0 48 ((m.2.1 x0 48) ||| ((1 : Int64) <<< (Int32.toInt64 (m.1 (x0 + 19) (Int32.toNatClampNeg x2)) &&& 63)))))) else some (Sum.inl ((x2 + (1 : Int32)), (dc_wl m x0 47 ((m.2.1 x0 47) ||| ((1 : Int64) <<< (Int32.toInt64 (m.1 (x0 + 19) (Int32.toNatClampNeg x2)) &&& 63))))))))))
noncomputable def d_X10_layAims_l12s (x0 : Nat) (x1 : Int32) : (Int32 × dc_M) → Option ((Int32 × dc_M) ⊕ dc_M) := fun s => d_X10_layAims_l12b x0 x1 s.1 s.2
noncomputable def d_X10_layAims_l12 (x0 : Nat) (x1 : Int32) (x2 : Int32) (m : dc_M) : Option dc_M := dc_lp (d_X10_layAims_l12s x0 x1) (x2, m)
set_option maxHeartbeats 8000000 in
theorem k_X10_layAims_l12 {u : Nat} {Φ : (Option dc_M) → Option Value → dc_M → Prop} (x0 : Nat) (x1 : Int32) (kR : ∀  (m : dc_M), Φ (some (m)) (none) m) : ∀ (N : Nat), ∀ (x2 : Int32) (m : dc_M) (lv : ab_L), ab_lk lv 0 = some (.ref x0) → ab_lk lv 1 = some (.int x1) → ab_lk lv 2 = some (.int x2) → dc_pv u N ab_M_X10_layAims 12 lv [] m (Φ (d_X10_layAims_l12 x0 x1 x2 m)) := by
  intro N
  induction N with
  | zero => intros; exact dc_pv_zero
  | succ N ih =>
    intro x2 m lv f0 f1 f2
    refine dc_ok (C := C_X10_layAims) (S := S_X10_layAims) CO_X10_layAims 400 12 [(0, .ref x0), (1, .int x1), (2, .int x2)] lv [] m (dc_sub_cons f0 (dc_sub_cons f1 (dc_sub_cons f2 (dc_sub_nil)))) ?_
    unfold d_X10_layAims_l12
    rw [dc_lp_eq]
    show (fun t x => dc_lf u N ab_M_X10_layAims (Φ (Option.bind t (dc_bk (d_X10_layAims_l12s x0 x1)))) x) (d_X10_layAims_l12b x0 x1 x2 m) _
    dsimp only
    unfold d_X10_layAims_l12b
    refine dg_s (pc' := 13) [.int x2] rfl (fun _ => rfl) rfl ?_
    refine dg_s (pc' := 14) [.ref x0, .int x2] rfl (fun _ => rfl) rfl ?_
    refine dg_s (pc' := 17) [.int (m.1 x0 32), .int x2] rfl (fun _ => rfl) rfl ?_
    refine dw_if (fun t => Φ (Option.bind t (dc_bk (d_X10_layAims_l12s x0 x1)))) ((Int32.toInt (m.1 x0 32)) ≤ (Int32.toInt x2)) [] 76 20 rfl (fun _ => rfl) (fun c0 => ?_) (fun c0 => ?_)
    · refine dw_g rfl ?_
      exact dw_r (some (.inl (none, m))) rfl (fun _ => rfl) (kR _)
    · refine dw_g rfl ?_
      refine dg_s (pc' := 21) [.ref x0] rfl (fun _ => rfl) rfl ?_
      refine dg_s (pc' := 22) [.int x2, .ref x0] rfl (fun _ => rfl) rfl ?_
      refine dw_b (fun t => Φ (Option.bind t (dc_bk (d_X10_layAims_l12s x0 x1)))) (pc' := 25) (fun q1 => [.int q1]) (fun q1 => m) rfl (fun _ => rfl) (fun q1 => ?_)
      refine dw_g rfl ?_
      refine dg_s (pc' := 26) [.int x1, .int q1] rfl (fun _ => rfl) rfl ?_
      refine dg_s (pc' := 27) [.int (q1 >>> (x1 &&& 31))] rfl (fun _ => rfl) rfl ?_
      refine dg_s (pc' := 28) [.int (1 : Int32), .int (q1 >>> (x1 &&& 31))] rfl (fun _ => rfl) rfl ?_
      refine dg_s (pc' := 29) [.int ((q1 >>> (x1 &&& 31)) &&& (1 : Int32))] rfl (fun _ => rfl) rfl ?_
      refine dg_s (pc' := 30) [.int (1 : Int32), .int ((q1 >>> (x1 &&& 31)) &&& (1 : Int32))] rfl (fun _ => rfl) rfl ?_
      refine dw_if (fun t => Φ (Option.bind t (dc_bk (d_X10_layAims_l12s x0 x1)))) (¬ (Int32.toInt ((q1 >>> (x1 &&& 31)) &&& (1 : Int32))) = 1) [] 53 33 rfl (fun _ => rfl) (fun c1 => ?_) (fun c1 => ?_)
      · refine dw_g rfl ?_
        refine dg_s (pc' := 54) [.ref x0] rfl (fun _ => rfl) rfl ?_
        refine dg_s (pc' := 55) [.ref x0, .ref x0] rfl (fun _ => rfl) rfl ?_
        refine dg_s (pc' := 58) [.long (m.2.1 x0 48), .ref x0] rfl (fun _ => rfl) rfl ?_
        refine dg_s (pc' := 59) [.long (1 : Int64), .long (m.2.1 x0 48), .ref x0] rfl (fun _ => rfl) rfl ?_
        refine dg_s (pc' := 60) [.ref x0, .long (1 : Int64), .long (m.2.1 x0 48), .ref x0] rfl (fun _ => rfl) rfl ?_
        refine dg_s (pc' := 63) [.ref (x0 + 19), .long (1 : Int64), .long (m.2.1 x0 48), .ref x0] rfl (fun _ => rfl) rfl ?_
        refine dg_s (pc' := 64) [.int x2, .ref (x0 + 19), .long (1 : Int64), .long (m.2.1 x0 48), .ref x0] rfl (fun _ => rfl) rfl ?_
        refine dg_s (pc' := 65) [.int (m.1 (x0 + 19) (Int32.toNatClampNeg x2)), .long (1 : Int64), .long (m.2.1 x0 48), .ref x0] rfl (fun _ => rfl) rfl ?_
        refine dg_s (pc' := 66) [.long ((1 : Int64) <<< (Int32.toInt64 (m.1 (x0 + 19) (Int32.toNatClampNeg x2)) &&& 63)), .long (m.2.1 x0 48), .ref x0] rfl (fun _ => rfl) rfl ?_
        refine dg_s (pc' := 67) [.long ((m.2.1 x0 48) ||| ((1 : Int64) <<< (Int32.toInt64 (m.1 (x0 + 19) (Int32.toNatClampNeg x2)) &&& 63))), .ref x0] rfl (fun _ => rfl) rfl ?_
        refine dg_m (pc' := 70) (dc_wl m x0 48 ((m.2.1 x0 48) ||| ((1 : Int64) <<< (Int32.toInt64 (m.1 (x0 + 19) (Int32.toNatClampNeg x2)) &&& 63)))) [] rfl (fun _ => rfl) rfl ?_
        refine dg_L (pc' := 73) [(2, .int (x2 + (1 : Int32))), (0, .ref x0), (1, .int x1)] [] rfl (fun _ => rfl) rfl ?_
        refine dw_s (pc' := 12) [] rfl (fun _ => rfl) ?_
        exact dw_j rfl (fun lv1 hv => ih (x2 + (1 : Int32)) (dc_wl m x0 48 ((m.2.1 x0 48) ||| ((1 : Int64) <<< (Int32.toInt64 (m.1 (x0 + 19) (Int32.toNatClampNeg x2)) &&& 63)))) lv1 (hv.1 _ rfl) (hv.2.1 _ rfl) (hv.2.2.1 _ rfl))
      · refine dw_g rfl ?_
        refine dg_s (pc' := 34) [.ref x0] rfl (fun _ => rfl) rfl ?_
        refine dg_s (pc' := 35) [.ref x0, .ref x0] rfl (fun _ => rfl) rfl ?_
        refine dg_s (pc' := 38) [.long (m.2.1 x0 47), .ref x0] rfl (fun _ => rfl) rfl ?_
        refine dg_s (pc' := 39) [.long (1 : Int64), .long (m.2.1 x0 47), .ref x0] rfl (fun _ => rfl) rfl ?_
        refine dg_s (pc' := 40) [.ref x0, .long (1 : Int64), .long (m.2.1 x0 47), .ref x0] rfl (fun _ => rfl) rfl ?_
        refine dg_s (pc' := 43) [.ref (x0 + 19), .long (1 : Int64), .long (m.2.1 x0 47), .ref x0] rfl (fun _ => rfl) rfl ?_
        refine dg_s (pc' := 44) [.int x2, .ref (x0 + 19), .long (1 : Int64), .long (m.2.1 x0 47), .ref x0] rfl (fun _ => rfl) rfl ?_
        refine dg_s (pc' := 45) [.int (m.1 (x0 + 19) (Int32.toNatClampNeg x2)), .long (1 : Int64), .long (m.2.1 x0 47), .ref x0] rfl (fun _ => rfl) rfl ?_
        refine dg_s (pc' := 46) [.long ((1 : Int64) <<< (Int32.toInt64 (m.1 (x0 + 19) (Int32.toNatClampNeg x2)) &&& 63)), .long (m.2.1 x0 47), .ref x0] rfl (fun _ => rfl) rfl ?_
        refine dg_s (pc' := 47) [.long ((m.2.1 x0 47) ||| ((1 : Int64) <<< (Int32.toInt64 (m.1 (x0 + 19) (Int32.toNatClampNeg x2)) &&& 63))), .ref x0] rfl (fun _ => rfl) rfl ?_
        refine dg_m (pc' := 50) (dc_wl m x0 47 ((m.2.1 x0 47) ||| ((1 : Int64) <<< (Int32.toInt64 (m.1 (x0 + 19) (Int32.toNatClampNeg x2)) &&& 63)))) [] rfl (fun _ => rfl) rfl ?_
        refine dg_s (pc' := 70) [] rfl (fun _ => rfl) rfl ?_
        refine dg_L (pc' := 73) [(2, .int (x2 + (1 : Int32))), (0, .ref x0), (1, .int x1)] [] rfl (fun _ => rfl) rfl ?_
        refine dw_s (pc' := 12) [] rfl (fun _ => rfl) ?_
        exact dw_j rfl (fun lv1 hv => ih (x2 + (1 : Int32)) (dc_wl m x0 47 ((m.2.1 x0 47) ||| ((1 : Int64) <<< (Int32.toInt64 (m.1 (x0 + 19) (Int32.toNatClampNeg x2)) &&& 63)))) lv1 (hv.1 _ rfl) (hv.2.1 _ rfl) (hv.2.2.1 _ rfl))
noncomputable def d_X10_layAims (x0 : Nat) (x1 : Int32) (m : dc_M) : Option dc_M :=
  (d_X10_layAims_l12 x0 x1 (0 : Int32) (dc_wl (dc_wl m x0 47 (0 : Int64)) x0 48 (0 : Int64)))
set_option maxHeartbeats 8000000 in
theorem k_X10_layAims {u : Nat} {N : Nat} {Φ : (Option dc_M) → Option Value → dc_M → Prop} (x0 : Nat) (x1 : Int32) (m : dc_M) (kR : ∀  (m : dc_M), Φ (some (m)) (none) m)  {lv : ab_L} (f0 : ab_lk lv 0 = some (.ref x0)) (f1 : ab_lk lv 1 = some (.int x1)) : dc_pv u N ab_M_X10_layAims 0 lv [] m (Φ (d_X10_layAims x0 x1 m)) := by
  refine dc_pv.mono (dc_ok (C := C_X10_layAims) (S := S_X10_layAims) CO_X10_layAims 400 0 [(0, .ref x0), (1, .int x1)] lv [] m (dc_sub_cons f0 (dc_sub_cons f1 (dc_sub_nil))) ?_) (Nat.le_succ N)
  unfold d_X10_layAims
  refine dg_s (pc' := 1) [.ref x0] rfl (fun _ => rfl) rfl ?_
  refine dg_s (pc' := 2) [.long (0 : Int64), .ref x0] rfl (fun _ => rfl) rfl ?_
  refine dg_m (pc' := 5) (dc_wl m x0 47 (0 : Int64)) [] rfl (fun _ => rfl) rfl ?_
  refine dg_s (pc' := 6) [.ref x0] rfl (fun _ => rfl) rfl ?_
  refine dg_s (pc' := 7) [.long (0 : Int64), .ref x0] rfl (fun _ => rfl) rfl ?_
  refine dg_m (pc' := 10) (dc_wl (dc_wl m x0 47 (0 : Int64)) x0 48 (0 : Int64)) [] rfl (fun _ => rfl) rfl ?_
  refine dg_s (pc' := 11) [.int (0 : Int32)] rfl (fun _ => rfl) rfl ?_
  refine dw_L (pc' := 12) [(2, .int (0 : Int32)), (0, .ref x0), (1, .int x1)] [] rfl (fun _ => rfl) ?_
  exact dw_j rfl (fun lv1 hv => k_X10_layAims_l12 (Φ := (fun t => Φ t)) x0 x1 (fun _b => kR _b) N  (0 : Int32) (dc_wl (dc_wl m x0 47 (0 : Int64)) x0 48 (0 : Int64)) lv1 (hv.1 _ rfl) (hv.2.1 _ rfl) (hv.2.2.1 _ rfl))
noncomputable def H_X10_layAims : dc_H := fun As m k => match As with
  | [.ref x0, .int x1] => (d_X10_layAims x0 x1 m).bind (fun q => k (none) q)
  | _ => dc_kz
theorem H_X10_layAims_ok {u : Nat} : dc_cok u 188 H_X10_layAims := fun M' hG N As m k P hz hP => by
  obtain rfl : ab_M_X10_layAims = M' := Option.some.inj hG
  unfold H_X10_layAims at hP
  split at hP
  · rename_i x0 x1
    exact dc_pv.imp (k_X10_layAims (Φ := fun (t : Option dc_M) r m' => P (t.bind (fun q => k (none) q)) → P (k r m')) x0 x1 m (fun _ h => h) rfl rfl) (fun r m' h => h hP)
  · exact absurd hP hz
noncomputable def C_X10_aim : List (Nat × dc_H) := [(146, H_X10_in), (162, H_X10_isWire), (188, H_X10_layAims), (175, H_X10_layRight)]
theorem CO_X10_aim {u : Nat} : dc_CO u C_X10_aim := dc_CO_cons H_X10_in_ok (dc_CO_cons H_X10_isWire_ok (dc_CO_cons H_X10_layAims_ok (dc_CO_cons H_X10_layRight_ok (dc_CO_nil))))
def S_X10_aim : List (Nat × List Nat) := [(61, [0, 2]), (80, [3]), (96, [3, 4])]
noncomputable def d_X10_aim_b96 (x3 : Int32) (x4 : Int32) (m : dc_M) : Option (Int32 × dc_M) :=
  (if (Int32.toInt x3) = 0 then (if (Int32.toInt x4) = 0 then some (((-4 : Int32), m)) else some (((0 : Int32), m))) else some (((1 : Int32), m)))
set_option maxHeartbeats 8000000 in
theorem k_X10_aim_b96 {u : Nat} {N : Nat} {Φ : (Option (Int32 × dc_M)) → Option Value → dc_M → Prop} (x3 : Int32) (x4 : Int32) (m : dc_M) (kR : ∀ (v : Int32) (m : dc_M), Φ (some ((v, m))) (some (.int v)) m)  {lv : ab_L} (f3 : ab_lk lv 3 = some (.int x3)) (f4 : ab_lk lv 4 = some (.int x4)) : dc_pv u N ab_M_X10_aim 96 lv [] m (Φ (d_X10_aim_b96 x3 x4 m)) := by
  refine dc_pv.mono (dc_ok (C := C_X10_aim) (S := S_X10_aim) CO_X10_aim 400 96 [(3, .int x3), (4, .int x4)] lv [] m (dc_sub_cons f3 (dc_sub_cons f4 (dc_sub_nil))) ?_) (Nat.le_succ N)
  unfold d_X10_aim_b96
  refine dg_s (pc' := 97) [.int x3] rfl (fun _ => rfl) rfl ?_
  refine dw_if (fun t => Φ t) ((Int32.toInt x3) = 0) [] 104 100 rfl (fun _ => rfl) (fun c0 => ?_) (fun c0 => ?_)
  · refine dw_g rfl ?_
    refine dg_s (pc' := 106) [.int x4] rfl (fun _ => rfl) rfl ?_
    refine dw_if (fun t => Φ t) ((Int32.toInt x4) = 0) [] 113 109 rfl (fun _ => rfl) (fun c1 => ?_) (fun c1 => ?_)
    · refine dw_g rfl ?_
      refine dg_s (pc' := 115) [.int (-4 : Int32)] rfl (fun _ => rfl) rfl ?_
      exact dw_r (some (.inl (some (.int (-4 : Int32)), m))) rfl (fun _ => rfl) (kR _ _)
    · refine dw_g rfl ?_
      refine dg_s (pc' := 110) [.int (0 : Int32)] rfl (fun _ => rfl) rfl ?_
      refine dg_s (pc' := 115) [.int (0 : Int32)] rfl (fun _ => rfl) rfl ?_
      exact dw_r (some (.inl (some (.int (0 : Int32)), m))) rfl (fun _ => rfl) (kR _ _)
  · refine dw_g rfl ?_
    refine dg_s (pc' := 101) [.int (1 : Int32)] rfl (fun _ => rfl) rfl ?_
    refine dg_s (pc' := 115) [.int (1 : Int32)] rfl (fun _ => rfl) rfl ?_
    exact dw_r (some (.inl (some (.int (1 : Int32)), m))) rfl (fun _ => rfl) (kR _ _)
noncomputable def d_X10_aim_b80 (x3 : Int32) (s0 : Int32) (m : dc_M) : Option (Int32 × dc_M) :=
  (if (Int32.toInt x3) = 0 then (d_X10_aim_b96 x3 s0 m) else (if (Int32.toInt s0) = 0 then (d_X10_aim_b96 x3 s0 m) else some (((-5 : Int32), m))))
set_option maxHeartbeats 8000000 in
theorem k_X10_aim_b80 {u : Nat} {N : Nat} {Φ : (Option (Int32 × dc_M)) → Option Value → dc_M → Prop} (x3 : Int32) (s0 : Int32) (m : dc_M) (kR : ∀ (v : Int32) (m : dc_M), Φ (some ((v, m))) (some (.int v)) m)  {lv : ab_L} (f3 : ab_lk lv 3 = some (.int x3)) : dc_pv u N ab_M_X10_aim 80 lv [.int s0] m (Φ (d_X10_aim_b80 x3 s0 m)) := by
  refine dc_pv.mono (dc_ok (C := C_X10_aim) (S := S_X10_aim) CO_X10_aim 400 80 [(3, .int x3)] lv [.int s0] m (dc_sub_cons f3 (dc_sub_nil)) ?_) (Nat.le_succ N)
  unfold d_X10_aim_b80
  refine dg_L (pc' := 82) [(4, .int s0), (3, .int x3)] [] rfl (fun _ => rfl) rfl ?_
  refine dg_s (pc' := 83) [.int x3] rfl (fun _ => rfl) rfl ?_
  refine dw_if (fun t => Φ t) ((Int32.toInt x3) = 0) [] 96 86 rfl (fun _ => rfl) (fun c0 => ?_) (fun c0 => ?_)
  · exact dw_j rfl (fun lv1 hv => k_X10_aim_b96 (Φ := (fun t => Φ t)) x3 s0 m (fun _a _b => kR _a _b)  (hv.1 _ rfl) (hv.2.1 _ rfl))
  · refine dw_g rfl ?_
    refine dg_s (pc' := 88) [.int s0] rfl (fun _ => rfl) rfl ?_
    refine dw_if (fun t => Φ t) ((Int32.toInt s0) = 0) [] 96 91 rfl (fun _ => rfl) (fun c1 => ?_) (fun c1 => ?_)
    · exact dw_j rfl (fun lv1 hv => k_X10_aim_b96 (Φ := (fun t => Φ t)) x3 s0 m (fun _a _b => kR _a _b)  (hv.1 _ rfl) (hv.2.1 _ rfl))
    · refine dw_g rfl ?_
      refine dg_s (pc' := 93) [.int (-5 : Int32)] rfl (fun _ => rfl) rfl ?_
      refine dg_s (pc' := 115) [.int (-5 : Int32)] rfl (fun _ => rfl) rfl ?_
      exact dw_r (some (.inl (some (.int (-5 : Int32)), m))) rfl (fun _ => rfl) (kR _ _)
noncomputable def d_X10_aim_b61 (x0 : Nat) (x2 : Int32) (s0 : Int32) (m : dc_M) : Option (Int32 × dc_M) :=
  (if ¬ (Int32.toInt (lg_cmp (((m.2.1 x0 48) >>> (Int32.toInt64 x2 &&& 63)) &&& (1 : Int64)) (1 : Int64))) = 0 then (d_X10_aim_b80 s0 (0 : Int32) m) else (d_X10_aim_b80 s0 (1 : Int32) m))
set_option maxHeartbeats 8000000 in
theorem k_X10_aim_b61 {u : Nat} {N : Nat} {Φ : (Option (Int32 × dc_M)) → Option Value → dc_M → Prop} (x0 : Nat) (x2 : Int32) (s0 : Int32) (m : dc_M) (kR : ∀ (v : Int32) (m : dc_M), Φ (some ((v, m))) (some (.int v)) m)  {lv : ab_L} (f0 : ab_lk lv 0 = some (.ref x0)) (f2 : ab_lk lv 2 = some (.int x2)) : dc_pv u N ab_M_X10_aim 61 lv [.int s0] m (Φ (d_X10_aim_b61 x0 x2 s0 m)) := by
  refine dc_pv.mono (dc_ok (C := C_X10_aim) (S := S_X10_aim) CO_X10_aim 400 61 [(0, .ref x0), (2, .int x2)] lv [.int s0] m (dc_sub_cons f0 (dc_sub_cons f2 (dc_sub_nil))) ?_) (Nat.le_succ N)
  unfold d_X10_aim_b61
  refine dg_L (pc' := 62) [(3, .int s0), (0, .ref x0), (2, .int x2)] [] rfl (fun _ => rfl) rfl ?_
  refine dg_s (pc' := 63) [.ref x0] rfl (fun _ => rfl) rfl ?_
  refine dg_s (pc' := 66) [.long (m.2.1 x0 48)] rfl (fun _ => rfl) rfl ?_
  refine dg_s (pc' := 67) [.int x2, .long (m.2.1 x0 48)] rfl (fun _ => rfl) rfl ?_
  refine dg_s (pc' := 68) [.long ((m.2.1 x0 48) >>> (Int32.toInt64 x2 &&& 63))] rfl (fun _ => rfl) rfl ?_
  refine dg_s (pc' := 69) [.long (1 : Int64), .long ((m.2.1 x0 48) >>> (Int32.toInt64 x2 &&& 63))] rfl (fun _ => rfl) rfl ?_
  refine dg_s (pc' := 70) [.long (((m.2.1 x0 48) >>> (Int32.toInt64 x2 &&& 63)) &&& (1 : Int64))] rfl (fun _ => rfl) rfl ?_
  refine dg_s (pc' := 71) [.long (1 : Int64), .long (((m.2.1 x0 48) >>> (Int32.toInt64 x2 &&& 63)) &&& (1 : Int64))] rfl (fun _ => rfl) rfl ?_
  refine dg_s (pc' := 72) [.int (lg_cmp (((m.2.1 x0 48) >>> (Int32.toInt64 x2 &&& 63)) &&& (1 : Int64)) (1 : Int64))] rfl (fun _ => rfl) rfl ?_
  refine dw_if (fun t => Φ t) (¬ (Int32.toInt (lg_cmp (((m.2.1 x0 48) >>> (Int32.toInt64 x2 &&& 63)) &&& (1 : Int64)) (1 : Int64))) = 0) [] 79 75 rfl (fun _ => rfl) (fun c0 => ?_) (fun c0 => ?_)
  · refine dw_g rfl ?_
    refine dw_s (pc' := 80) [.int (0 : Int32)] rfl (fun _ => rfl) ?_
    exact dw_j rfl (fun lv1 hv => k_X10_aim_b80 (Φ := (fun t => Φ t)) s0 (0 : Int32) m (fun _a _b => kR _a _b)  (hv.1 _ rfl))
  · refine dw_g rfl ?_
    refine dg_s (pc' := 76) [.int (1 : Int32)] rfl (fun _ => rfl) rfl ?_
    refine dw_s (pc' := 80) [.int (1 : Int32)] rfl (fun _ => rfl) ?_
    exact dw_j rfl (fun lv1 hv => k_X10_aim_b80 (Φ := (fun t => Φ t)) s0 (1 : Int32) m (fun _a _b => kR _a _b)  (hv.1 _ rfl))
noncomputable def d_X10_aim (x0 : Nat) (x1 : Int32) (x2 : Int32) (m : dc_M) : Option (Int32 × dc_M) :=
  (if (Int32.toInt (d_X10_isWire x0 x1 m)) = 0 then some (((-1 : Int32), m)) else (if ¬ (Int32.toInt (d_X10_in (Int32.toInt64 x2) (0 : Int64) (Int32.toInt64 (((1 : Int32) <<< ((m.1 x0 0) &&& 31)) - (1 : Int32))) m)) = 0 then ((d_X10_layRight x0 m).bind (fun q1 => (if ¬ (Int32.toInt q1.1) = 0 then ((d_X10_layAims x0 x1 q1.2).bind (fun q2 => (if ¬ (Int32.toInt (lg_cmp (((q2.2.1 x0 47) >>> (Int32.toInt64 x2 &&& 63)) &&& (1 : Int64)) (1 : Int64))) = 0 then (d_X10_aim_b61 x0 x2 (0 : Int32) q2) else (d_X10_aim_b61 x0 x2 (1 : Int32) q2)))) else some (((-2 : Int32), q1.2))))) else some (((-1 : Int32), m))))
set_option maxHeartbeats 8000000 in
theorem k_X10_aim {u : Nat} {N : Nat} {Φ : (Option (Int32 × dc_M)) → Option Value → dc_M → Prop} (x0 : Nat) (x1 : Int32) (x2 : Int32) (m : dc_M) (kR : ∀ (v : Int32) (m : dc_M), Φ (some ((v, m))) (some (.int v)) m)  {lv : ab_L} (f0 : ab_lk lv 0 = some (.ref x0)) (f1 : ab_lk lv 1 = some (.int x1)) (f2 : ab_lk lv 2 = some (.int x2)) : dc_pv u N ab_M_X10_aim 0 lv [] m (Φ (d_X10_aim x0 x1 x2 m)) := by
  refine dc_pv.mono (dc_ok (C := C_X10_aim) (S := S_X10_aim) CO_X10_aim 400 0 [(0, .ref x0), (1, .int x1), (2, .int x2)] lv [] m (dc_sub_cons f0 (dc_sub_cons f1 (dc_sub_cons f2 (dc_sub_nil)))) ?_) (Nat.le_succ N)
  unfold d_X10_aim
  refine dg_s (pc' := 1) [.ref x0] rfl (fun _ => rfl) rfl ?_
  refine dg_s (pc' := 2) [.int x1, .ref x0] rfl (fun _ => rfl) rfl ?_
  refine dg_s (pc' := 5) [.int (d_X10_isWire x0 x1 m)] rfl (fun _ => rfl) rfl ?_
  refine dw_if (fun t => Φ t) ((Int32.toInt (d_X10_isWire x0 x1 m)) = 0) [] 26 8 rfl (fun _ => rfl) (fun c0 => ?_) (fun c0 => ?_)
  · refine dw_g rfl ?_
    refine dg_s (pc' := 27) [.int (-1 : Int32)] rfl (fun _ => rfl) rfl ?_
    exact dw_r (some (.inl (some (.int (-1 : Int32)), m))) rfl (fun _ => rfl) (kR _ _)
  · refine dw_g rfl ?_
    refine dg_s (pc' := 9) [.int x2] rfl (fun _ => rfl) rfl ?_
    refine dg_s (pc' := 10) [.long (Int32.toInt64 x2)] rfl (fun _ => rfl) rfl ?_
    refine dg_s (pc' := 11) [.long (0 : Int64), .long (Int32.toInt64 x2)] rfl (fun _ => rfl) rfl ?_
    refine dg_s (pc' := 12) [.int (1 : Int32), .long (0 : Int64), .long (Int32.toInt64 x2)] rfl (fun _ => rfl) rfl ?_
    refine dg_s (pc' := 13) [.ref x0, .int (1 : Int32), .long (0 : Int64), .long (Int32.toInt64 x2)] rfl (fun _ => rfl) rfl ?_
    refine dg_s (pc' := 16) [.int (m.1 x0 0), .int (1 : Int32), .long (0 : Int64), .long (Int32.toInt64 x2)] rfl (fun _ => rfl) rfl ?_
    refine dg_s (pc' := 17) [.int ((1 : Int32) <<< ((m.1 x0 0) &&& 31)), .long (0 : Int64), .long (Int32.toInt64 x2)] rfl (fun _ => rfl) rfl ?_
    refine dg_s (pc' := 18) [.int (1 : Int32), .int ((1 : Int32) <<< ((m.1 x0 0) &&& 31)), .long (0 : Int64), .long (Int32.toInt64 x2)] rfl (fun _ => rfl) rfl ?_
    refine dg_s (pc' := 19) [.int (((1 : Int32) <<< ((m.1 x0 0) &&& 31)) - (1 : Int32)), .long (0 : Int64), .long (Int32.toInt64 x2)] rfl (fun _ => rfl) rfl ?_
    refine dg_s (pc' := 20) [.long (Int32.toInt64 (((1 : Int32) <<< ((m.1 x0 0) &&& 31)) - (1 : Int32))), .long (0 : Int64), .long (Int32.toInt64 x2)] rfl (fun _ => rfl) rfl ?_
    refine dg_s (pc' := 23) [.int (d_X10_in (Int32.toInt64 x2) (0 : Int64) (Int32.toInt64 (((1 : Int32) <<< ((m.1 x0 0) &&& 31)) - (1 : Int32))) m)] rfl (fun _ => rfl) rfl ?_
    refine dw_if (fun t => Φ t) (¬ (Int32.toInt (d_X10_in (Int32.toInt64 x2) (0 : Int64) (Int32.toInt64 (((1 : Int32) <<< ((m.1 x0 0) &&& 31)) - (1 : Int32))) m)) = 0) [] 28 26 rfl (fun _ => rfl) (fun c1 => ?_) (fun c1 => ?_)
    · refine dw_g rfl ?_
      refine dg_s (pc' := 29) [.ref x0] rfl (fun _ => rfl) rfl ?_
      refine dw_b (fun t => Φ t) (pc' := 32) (fun q1 => [.int q1.1]) (fun q1 => q1.2) rfl (fun _ => rfl) (fun q1 => ?_)
      refine dw_g rfl ?_
      refine dw_if (fun t => Φ t) (¬ (Int32.toInt q1.1) = 0) [] 38 35 rfl (fun _ => rfl) (fun c2 => ?_) (fun c2 => ?_)
      · refine dw_g rfl ?_
        refine dg_s (pc' := 39) [.ref x0] rfl (fun _ => rfl) rfl ?_
        refine dg_s (pc' := 40) [.int x1, .ref x0] rfl (fun _ => rfl) rfl ?_
        refine dw_b (fun t => Φ t) (pc' := 43) (fun q2 => []) (fun q2 => q2) rfl (fun _ => rfl) (fun q2 => ?_)
        refine dw_g rfl ?_
        refine dg_s (pc' := 44) [.ref x0] rfl (fun _ => rfl) rfl ?_
        refine dg_s (pc' := 47) [.long (q2.2.1 x0 47)] rfl (fun _ => rfl) rfl ?_
        refine dg_s (pc' := 48) [.int x2, .long (q2.2.1 x0 47)] rfl (fun _ => rfl) rfl ?_
        refine dg_s (pc' := 49) [.long ((q2.2.1 x0 47) >>> (Int32.toInt64 x2 &&& 63))] rfl (fun _ => rfl) rfl ?_
        refine dg_s (pc' := 50) [.long (1 : Int64), .long ((q2.2.1 x0 47) >>> (Int32.toInt64 x2 &&& 63))] rfl (fun _ => rfl) rfl ?_
        refine dg_s (pc' := 51) [.long (((q2.2.1 x0 47) >>> (Int32.toInt64 x2 &&& 63)) &&& (1 : Int64))] rfl (fun _ => rfl) rfl ?_
        refine dg_s (pc' := 52) [.long (1 : Int64), .long (((q2.2.1 x0 47) >>> (Int32.toInt64 x2 &&& 63)) &&& (1 : Int64))] rfl (fun _ => rfl) rfl ?_
        refine dg_s (pc' := 53) [.int (lg_cmp (((q2.2.1 x0 47) >>> (Int32.toInt64 x2 &&& 63)) &&& (1 : Int64)) (1 : Int64))] rfl (fun _ => rfl) rfl ?_
        refine dw_if (fun t => Φ t) (¬ (Int32.toInt (lg_cmp (((q2.2.1 x0 47) >>> (Int32.toInt64 x2 &&& 63)) &&& (1 : Int64)) (1 : Int64))) = 0) [] 60 56 rfl (fun _ => rfl) (fun c3 => ?_) (fun c3 => ?_)
        · refine dw_g rfl ?_
          refine dw_s (pc' := 61) [.int (0 : Int32)] rfl (fun _ => rfl) ?_
          exact dw_j rfl (fun lv1 hv => k_X10_aim_b61 (Φ := (fun t => Φ t)) x0 x2 (0 : Int32) q2 (fun _a _b => kR _a _b)  (hv.1 _ rfl) (hv.2.1 _ rfl))
        · refine dw_g rfl ?_
          refine dg_s (pc' := 57) [.int (1 : Int32)] rfl (fun _ => rfl) rfl ?_
          refine dw_s (pc' := 61) [.int (1 : Int32)] rfl (fun _ => rfl) ?_
          exact dw_j rfl (fun lv1 hv => k_X10_aim_b61 (Φ := (fun t => Φ t)) x0 x2 (1 : Int32) q2 (fun _a _b => kR _a _b)  (hv.1 _ rfl) (hv.2.1 _ rfl))
      · refine dw_g rfl ?_
        refine dg_s (pc' := 37) [.int (-2 : Int32)] rfl (fun _ => rfl) rfl ?_
        exact dw_r (some (.inl (some (.int (-2 : Int32)), q1.2))) rfl (fun _ => rfl) (kR _ _)
    · refine dw_g rfl ?_
      refine dg_s (pc' := 27) [.int (-1 : Int32)] rfl (fun _ => rfl) rfl ?_
      exact dw_r (some (.inl (some (.int (-1 : Int32)), m))) rfl (fun _ => rfl) (kR _ _)
noncomputable def H_X10_aim : dc_H := fun As m k => match As with
  | [.ref x0, .int x1, .int x2] => (d_X10_aim x0 x1 x2 m).bind (fun q => k (some (.int q.1)) q.2)
  | _ => dc_kz
theorem H_X10_aim_ok {u : Nat} : dc_cok u 189 H_X10_aim := fun M' hG N As m k P hz hP => by
  obtain rfl : ab_M_X10_aim = M' := Option.some.inj hG
  unfold H_X10_aim at hP
  split at hP
  · rename_i x0 x1 x2
    exact dc_pv.imp (k_X10_aim (Φ := fun (t : Option (Int32 × dc_M)) r m' => P (t.bind (fun q => k (some (.int q.1)) q.2)) → P (k r m')) x0 x1 x2 m (fun _ _ h => h) rfl rfl rfl) (fun r m' h => h hP)
  · exact absurd hP hz
def C_X3_isMade : List (Nat × dc_H) := [(25, H_X3_hasWire)]
theorem CO_X3_isMade {u : Nat} : dc_CO u C_X3_isMade := dc_CO_cons H_X3_hasWire_ok (dc_CO_nil)
def S_X3_isMade : List (Nat × List Nat) := []
def d_X3_isMade (x0 : Nat) (x1 : Int32) (m : dc_M) : Int32 :=
  (if (Int32.toInt (d_X3_hasWire x0 x1 m)) = 0 then (0 : Int32) else (if (Int32.toInt (m.1 (x0 + 2) (Int32.toNatClampNeg x1))) = 0 then (0 : Int32) else (1 : Int32)))
set_option maxHeartbeats 8000000 in
theorem k_X3_isMade {u : Nat} {N : Nat} {Φ : Int32 → Option Value → dc_M → Prop} (x0 : Nat) (x1 : Int32) (m : dc_M) (kR : ∀ (v : Int32), Φ (v) (some (.int v)) m)  {lv : ab_L} (f0 : ab_lk lv 0 = some (.ref x0)) (f1 : ab_lk lv 1 = some (.int x1)) : dc_pv u N ab_M_X3_isMade 0 lv [] m (Φ (d_X3_isMade x0 x1 m)) := by
  refine dc_pv.mono (dc_ok (C := C_X3_isMade) (S := S_X3_isMade) CO_X3_isMade 400 0 [(0, .ref x0), (1, .int x1)] lv [] m (dc_sub_cons f0 (dc_sub_cons f1 (dc_sub_nil))) ?_) (Nat.le_succ N)
  unfold d_X3_isMade
  refine dg_s (pc' := 1) [.ref x0] rfl (fun _ => rfl) rfl ?_
  refine dg_s (pc' := 2) [.int x1, .ref x0] rfl (fun _ => rfl) rfl ?_
  refine dg_s (pc' := 5) [.int (d_X3_hasWire x0 x1 m)] rfl (fun _ => rfl) rfl ?_
  refine dw_if (fun t => Φ t) ((Int32.toInt (d_X3_hasWire x0 x1 m)) = 0) [] 21 8 rfl (fun _ => rfl) (fun c0 => ?_) (fun c0 => ?_)
  · refine dw_g rfl ?_
    refine dg_s (pc' := 22) [.int (0 : Int32)] rfl (fun _ => rfl) rfl ?_
    exact dw_r (some (.inl (some (.int (0 : Int32)), m))) rfl (fun _ => rfl) (kR _)
  · refine dw_g rfl ?_
    refine dg_s (pc' := 9) [.ref x0] rfl (fun _ => rfl) rfl ?_
    refine dg_s (pc' := 12) [.ref (x0 + 2)] rfl (fun _ => rfl) rfl ?_
    refine dg_s (pc' := 13) [.int x1, .ref (x0 + 2)] rfl (fun _ => rfl) rfl ?_
    refine dg_s (pc' := 14) [.int (m.1 (x0 + 2) (Int32.toNatClampNeg x1))] rfl (fun _ => rfl) rfl ?_
    refine dw_if (fun t => Φ t) ((Int32.toInt (m.1 (x0 + 2) (Int32.toNatClampNeg x1))) = 0) [] 21 17 rfl (fun _ => rfl) (fun c1 => ?_) (fun c1 => ?_)
    · refine dw_g rfl ?_
      refine dg_s (pc' := 22) [.int (0 : Int32)] rfl (fun _ => rfl) rfl ?_
      exact dw_r (some (.inl (some (.int (0 : Int32)), m))) rfl (fun _ => rfl) (kR _)
    · refine dw_g rfl ?_
      refine dg_s (pc' := 18) [.int (1 : Int32)] rfl (fun _ => rfl) rfl ?_
      refine dg_s (pc' := 22) [.int (1 : Int32)] rfl (fun _ => rfl) rfl ?_
      exact dw_r (some (.inl (some (.int (1 : Int32)), m))) rfl (fun _ => rfl) (kR _)
def H_X3_isMade : dc_H := fun As m k => match As with
  | [.ref x0, .int x1] => k (some (.int (d_X3_isMade x0 x1 m))) m
  | _ => dc_kz
theorem H_X3_isMade_ok {u : Nat} : dc_cok u 28 H_X3_isMade := fun M' hG N As m k P hz hP => by
  obtain rfl : ab_M_X3_isMade = M' := Option.some.inj hG
  unfold H_X3_isMade at hP
  split at hP
  · rename_i x0 x1
    exact dc_pv.imp (k_X3_isMade (Φ := fun (t : Int32) r m' => P (k (some (.int t)) m) → P (k r m')) x0 x1 m (fun _  h => h) rfl rfl) (fun r m' h => h hP)
  · exact absurd hP hz
def C_X6_isNothing : List (Nat × dc_H) := []
theorem CO_X6_isNothing {u : Nat} : dc_CO u C_X6_isNothing := dc_CO_nil
def S_X6_isNothing : List (Nat × List Nat) := []
def d_X6_isNothing (x0 : Nat) (m : dc_M) : Int32 :=
  (if 0 ≤ (Int32.toInt (m.1 x0 0)) then (0 : Int32) else (1 : Int32))
set_option maxHeartbeats 8000000 in
theorem k_X6_isNothing {u : Nat} {N : Nat} {Φ : Int32 → Option Value → dc_M → Prop} (x0 : Nat) (m : dc_M) (kR : ∀ (v : Int32), Φ (v) (some (.int v)) m)  {lv : ab_L} (f0 : ab_lk lv 0 = some (.ref x0)) : dc_pv u N ab_M_X6_isNothing 0 lv [] m (Φ (d_X6_isNothing x0 m)) := by
  refine dc_pv.mono (dc_ok (C := C_X6_isNothing) (S := S_X6_isNothing) CO_X6_isNothing 400 0 [(0, .ref x0)] lv [] m (dc_sub_cons f0 (dc_sub_nil)) ?_) (Nat.le_succ N)
  unfold d_X6_isNothing
  refine dg_s (pc' := 1) [.ref x0] rfl (fun _ => rfl) rfl ?_
  refine dg_s (pc' := 4) [.int (m.1 x0 0)] rfl (fun _ => rfl) rfl ?_
  refine dw_if (fun t => Φ t) (0 ≤ (Int32.toInt (m.1 x0 0))) [] 11 7 rfl (fun _ => rfl) (fun c0 => ?_) (fun c0 => ?_)
  · refine dw_g rfl ?_
    refine dg_s (pc' := 12) [.int (0 : Int32)] rfl (fun _ => rfl) rfl ?_
    exact dw_r (some (.inl (some (.int (0 : Int32)), m))) rfl (fun _ => rfl) (kR _)
  · refine dw_g rfl ?_
    refine dg_s (pc' := 8) [.int (1 : Int32)] rfl (fun _ => rfl) rfl ?_
    refine dg_s (pc' := 12) [.int (1 : Int32)] rfl (fun _ => rfl) rfl ?_
    exact dw_r (some (.inl (some (.int (1 : Int32)), m))) rfl (fun _ => rfl) (kR _)
def H_X6_isNothing : dc_H := fun As m k => match As with
  | [.ref x0] => k (some (.int (d_X6_isNothing x0 m))) m
  | _ => dc_kz
theorem H_X6_isNothing_ok {u : Nat} : dc_cok u 76 H_X6_isNothing := fun M' hG N As m k P hz hP => by
  obtain rfl : ab_M_X6_isNothing = M' := Option.some.inj hG
  unfold H_X6_isNothing at hP
  split at hP
  · rename_i x0
    exact dc_pv.imp (k_X6_isNothing (Φ := fun (t : Int32) r m' => P (k (some (.int t)) m) → P (k r m')) x0 m (fun _  h => h) rfl) (fun r m' h => h hP)
  · exact absurd hP hz
def C_X6_faultAs : List (Nat × dc_H) := [(76, H_X6_isNothing)]
theorem CO_X6_faultAs {u : Nat} : dc_CO u C_X6_faultAs := dc_CO_cons H_X6_isNothing_ok (dc_CO_nil)
def S_X6_faultAs : List (Nat × List Nat) := []
def d_X6_faultAs (x0 : Nat) (x1 : Int32) (m : dc_M) : Int32 :=
  (if (Int32.toInt (d_X6_isNothing x0 m)) = 0 then (if ¬ (Int32.toInt x1) = (Int32.toInt (m.1 x0 2)) then (3 : Int32) else (0 : Int32)) else (1 : Int32))
set_option maxHeartbeats 8000000 in
theorem k_X6_faultAs {u : Nat} {N : Nat} {Φ : Int32 → Option Value → dc_M → Prop} (x0 : Nat) (x1 : Int32) (m : dc_M) (kR : ∀ (v : Int32), Φ (v) (some (.int v)) m)  {lv : ab_L} (f0 : ab_lk lv 0 = some (.ref x0)) (f1 : ab_lk lv 1 = some (.int x1)) : dc_pv u N ab_M_X6_faultAs 0 lv [] m (Φ (d_X6_faultAs x0 x1 m)) := by
  refine dc_pv.mono (dc_ok (C := C_X6_faultAs) (S := S_X6_faultAs) CO_X6_faultAs 400 0 [(0, .ref x0), (1, .int x1)] lv [] m (dc_sub_cons f0 (dc_sub_cons f1 (dc_sub_nil))) ?_) (Nat.le_succ N)
  unfold d_X6_faultAs
  refine dg_s (pc' := 1) [.ref x0] rfl (fun _ => rfl) rfl ?_
  refine dg_s (pc' := 4) [.int (d_X6_isNothing x0 m)] rfl (fun _ => rfl) rfl ?_
  refine dw_if (fun t => Φ t) ((Int32.toInt (d_X6_isNothing x0 m)) = 0) [] 9 7 rfl (fun _ => rfl) (fun c0 => ?_) (fun c0 => ?_)
  · refine dw_g rfl ?_
    refine dg_s (pc' := 10) [.int x1] rfl (fun _ => rfl) rfl ?_
    refine dg_s (pc' := 11) [.ref x0, .int x1] rfl (fun _ => rfl) rfl ?_
    refine dg_s (pc' := 14) [.int (m.1 x0 2), .int x1] rfl (fun _ => rfl) rfl ?_
    refine dw_if (fun t => Φ t) (¬ (Int32.toInt x1) = (Int32.toInt (m.1 x0 2))) [] 21 17 rfl (fun _ => rfl) (fun c1 => ?_) (fun c1 => ?_)
    · refine dw_g rfl ?_
      refine dg_s (pc' := 22) [.int (3 : Int32)] rfl (fun _ => rfl) rfl ?_
      exact dw_r (some (.inl (some (.int (3 : Int32)), m))) rfl (fun _ => rfl) (kR _)
    · refine dw_g rfl ?_
      refine dg_s (pc' := 18) [.int (0 : Int32)] rfl (fun _ => rfl) rfl ?_
      refine dg_s (pc' := 22) [.int (0 : Int32)] rfl (fun _ => rfl) rfl ?_
      exact dw_r (some (.inl (some (.int (0 : Int32)), m))) rfl (fun _ => rfl) (kR _)
  · refine dw_g rfl ?_
    refine dg_s (pc' := 8) [.int (1 : Int32)] rfl (fun _ => rfl) rfl ?_
    exact dw_r (some (.inl (some (.int (1 : Int32)), m))) rfl (fun _ => rfl) (kR _)
def H_X6_faultAs : dc_H := fun As m k => match As with
  | [.ref x0, .int x1] => k (some (.int (d_X6_faultAs x0 x1 m))) m
  | _ => dc_kz
theorem H_X6_faultAs_ok {u : Nat} : dc_cok u 78 H_X6_faultAs := fun M' hG N As m k P hz hP => by
  obtain rfl : ab_M_X6_faultAs = M' := Option.some.inj hG
  unfold H_X6_faultAs at hP
  split at hP
  · rename_i x0 x1
    exact dc_pv.imp (k_X6_faultAs (Φ := fun (t : Int32) r m' => P (k (some (.int t)) m) → P (k r m')) x0 x1 m (fun _  h => h) rfl rfl) (fun r m' h => h hP)
  · exact absurd hP hz
def C_X6_hasCells : List (Nat × dc_H) := []
theorem CO_X6_hasCells {u : Nat} : dc_CO u C_X6_hasCells := dc_CO_nil
def S_X6_hasCells : List (Nat × List Nat) := []
def d_X6_hasCells (x0 : Nat) (x1 : Int32) (x2 : Int32) (m : dc_M) : Int32 :=
  (if (Int32.toInt x1) < 0 then (0 : Int32) else (if (Int32.toInt ((m.1 x0 0) - x2)) < (Int32.toInt x1) then (0 : Int32) else (1 : Int32)))
set_option maxHeartbeats 8000000 in
theorem k_X6_hasCells {u : Nat} {N : Nat} {Φ : Int32 → Option Value → dc_M → Prop} (x0 : Nat) (x1 : Int32) (x2 : Int32) (m : dc_M) (kR : ∀ (v : Int32), Φ (v) (some (.int v)) m)  {lv : ab_L} (f0 : ab_lk lv 0 = some (.ref x0)) (f1 : ab_lk lv 1 = some (.int x1)) (f2 : ab_lk lv 2 = some (.int x2)) : dc_pv u N ab_M_X6_hasCells 0 lv [] m (Φ (d_X6_hasCells x0 x1 x2 m)) := by
  refine dc_pv.mono (dc_ok (C := C_X6_hasCells) (S := S_X6_hasCells) CO_X6_hasCells 400 0 [(0, .ref x0), (1, .int x1), (2, .int x2)] lv [] m (dc_sub_cons f0 (dc_sub_cons f1 (dc_sub_cons f2 (dc_sub_nil)))) ?_) (Nat.le_succ N)
  unfold d_X6_hasCells
  refine dg_s (pc' := 1) [.int x1] rfl (fun _ => rfl) rfl ?_
  refine dw_if (fun t => Φ t) ((Int32.toInt x1) < 0) [] 18 4 rfl (fun _ => rfl) (fun c0 => ?_) (fun c0 => ?_)
  · refine dw_g rfl ?_
    refine dg_s (pc' := 19) [.int (0 : Int32)] rfl (fun _ => rfl) rfl ?_
    exact dw_r (some (.inl (some (.int (0 : Int32)), m))) rfl (fun _ => rfl) (kR _)
  · refine dw_g rfl ?_
    refine dg_s (pc' := 5) [.int x1] rfl (fun _ => rfl) rfl ?_
    refine dg_s (pc' := 6) [.ref x0, .int x1] rfl (fun _ => rfl) rfl ?_
    refine dg_s (pc' := 9) [.int (m.1 x0 0), .int x1] rfl (fun _ => rfl) rfl ?_
    refine dg_s (pc' := 10) [.int x2, .int (m.1 x0 0), .int x1] rfl (fun _ => rfl) rfl ?_
    refine dg_s (pc' := 11) [.int ((m.1 x0 0) - x2), .int x1] rfl (fun _ => rfl) rfl ?_
    refine dw_if (fun t => Φ t) ((Int32.toInt ((m.1 x0 0) - x2)) < (Int32.toInt x1)) [] 18 14 rfl (fun _ => rfl) (fun c1 => ?_) (fun c1 => ?_)
    · refine dw_g rfl ?_
      refine dg_s (pc' := 19) [.int (0 : Int32)] rfl (fun _ => rfl) rfl ?_
      exact dw_r (some (.inl (some (.int (0 : Int32)), m))) rfl (fun _ => rfl) (kR _)
    · refine dw_g rfl ?_
      refine dg_s (pc' := 15) [.int (1 : Int32)] rfl (fun _ => rfl) rfl ?_
      refine dg_s (pc' := 19) [.int (1 : Int32)] rfl (fun _ => rfl) rfl ?_
      exact dw_r (some (.inl (some (.int (1 : Int32)), m))) rfl (fun _ => rfl) (kR _)
def H_X6_hasCells : dc_H := fun As m k => match As with
  | [.ref x0, .int x1, .int x2] => k (some (.int (d_X6_hasCells x0 x1 x2 m))) m
  | _ => dc_kz
theorem H_X6_hasCells_ok {u : Nat} : dc_cok u 79 H_X6_hasCells := fun M' hG N As m k P hz hP => by
  obtain rfl : ab_M_X6_hasCells = M' := Option.some.inj hG
  unfold H_X6_hasCells at hP
  split at hP
  · rename_i x0 x1 x2
    exact dc_pv.imp (k_X6_hasCells (Φ := fun (t : Int32) r m' => P (k (some (.int t)) m) → P (k r m')) x0 x1 x2 m (fun _  h => h) rfl rfl rfl) (fun r m' h => h hP)
  · exact absurd hP hz
def C_X8_isCube : List (Nat × dc_H) := []
theorem CO_X8_isCube {u : Nat} : dc_CO u C_X8_isCube := dc_CO_nil
def S_X8_isCube : List (Nat × List Nat) := []
def d_X8_isCube (x0 : Nat) (x1 : Int32) (m : dc_M) : Int32 :=
  (if (Int32.toInt x1) < 0 then (0 : Int32) else (if (Int32.toInt (m.1 x0 7)) ≤ (Int32.toInt x1) then (0 : Int32) else (1 : Int32)))
set_option maxHeartbeats 8000000 in
theorem k_X8_isCube {u : Nat} {N : Nat} {Φ : Int32 → Option Value → dc_M → Prop} (x0 : Nat) (x1 : Int32) (m : dc_M) (kR : ∀ (v : Int32), Φ (v) (some (.int v)) m)  {lv : ab_L} (f0 : ab_lk lv 0 = some (.ref x0)) (f1 : ab_lk lv 1 = some (.int x1)) : dc_pv u N ab_M_X8_isCube 0 lv [] m (Φ (d_X8_isCube x0 x1 m)) := by
  refine dc_pv.mono (dc_ok (C := C_X8_isCube) (S := S_X8_isCube) CO_X8_isCube 400 0 [(0, .ref x0), (1, .int x1)] lv [] m (dc_sub_cons f0 (dc_sub_cons f1 (dc_sub_nil))) ?_) (Nat.le_succ N)
  unfold d_X8_isCube
  refine dg_s (pc' := 1) [.int x1] rfl (fun _ => rfl) rfl ?_
  refine dw_if (fun t => Φ t) ((Int32.toInt x1) < 0) [] 16 4 rfl (fun _ => rfl) (fun c0 => ?_) (fun c0 => ?_)
  · refine dw_g rfl ?_
    refine dg_s (pc' := 17) [.int (0 : Int32)] rfl (fun _ => rfl) rfl ?_
    exact dw_r (some (.inl (some (.int (0 : Int32)), m))) rfl (fun _ => rfl) (kR _)
  · refine dw_g rfl ?_
    refine dg_s (pc' := 5) [.int x1] rfl (fun _ => rfl) rfl ?_
    refine dg_s (pc' := 6) [.ref x0, .int x1] rfl (fun _ => rfl) rfl ?_
    refine dg_s (pc' := 9) [.int (m.1 x0 7), .int x1] rfl (fun _ => rfl) rfl ?_
    refine dw_if (fun t => Φ t) ((Int32.toInt (m.1 x0 7)) ≤ (Int32.toInt x1)) [] 16 12 rfl (fun _ => rfl) (fun c1 => ?_) (fun c1 => ?_)
    · refine dw_g rfl ?_
      refine dg_s (pc' := 17) [.int (0 : Int32)] rfl (fun _ => rfl) rfl ?_
      exact dw_r (some (.inl (some (.int (0 : Int32)), m))) rfl (fun _ => rfl) (kR _)
    · refine dw_g rfl ?_
      refine dg_s (pc' := 13) [.int (1 : Int32)] rfl (fun _ => rfl) rfl ?_
      refine dg_s (pc' := 17) [.int (1 : Int32)] rfl (fun _ => rfl) rfl ?_
      exact dw_r (some (.inl (some (.int (1 : Int32)), m))) rfl (fun _ => rfl) (kR _)
def H_X8_isCube : dc_H := fun As m k => match As with
  | [.ref x0, .int x1] => k (some (.int (d_X8_isCube x0 x1 m))) m
  | _ => dc_kz
theorem H_X8_isCube_ok {u : Nat} : dc_cok u 95 H_X8_isCube := fun M' hG N As m k P hz hP => by
  obtain rfl : ab_M_X8_isCube = M' := Option.some.inj hG
  unfold H_X8_isCube at hP
  split at hP
  · rename_i x0 x1
    exact dc_pv.imp (k_X8_isCube (Φ := fun (t : Int32) r m' => P (k (some (.int t)) m) → P (k r m')) x0 x1 m (fun _  h => h) rfl rfl) (fun r m' h => h hP)
  · exact absurd hP hz
def C_X8_levelsIn : List (Nat × dc_H) := []
theorem CO_X8_levelsIn {u : Nat} : dc_CO u C_X8_levelsIn := dc_CO_nil
def S_X8_levelsIn : List (Nat × List Nat) := [(26, [1, 2, 4, 5])]
noncomputable def d_X8_levelsIn_l26b (x1 : Int32) (x2 : Int64) (x4 : Int32) (x5 : Int32) (m : dc_M) : Option ((Int64 × Int32 × Int32) ⊕ Int64) :=
  (if (Int32.toInt x1) ≤ (Int32.toInt x5) then some (Sum.inr (x2)) else (if 6 ≤ (Int32.toInt x5) then some (Sum.inr (x2)) else (if ¬ (Int32.toInt (x4 - x4 / (3 : Int32) * (3 : Int32))) = 0 then (if ¬ (Int32.toInt (x4 - x4 / (3 : Int32) * (3 : Int32))) = 1 then some (Sum.inl (x2, (x4 / (3 : Int32)), (x5 + (1 : Int32)))) else some (Sum.inl ((x2 &&& (ab_hi (Int32.toNatClampNeg x5))), (x4 / (3 : Int32)), (x5 + (1 : Int32))))) else some (Sum.inl ((x2 &&& ((ab_hi (Int32.toNatClampNeg x5)) ^^^ (-1 : Int64))), (x4 / (3 : Int32)), (x5 + (1 : Int32)))))))
noncomputable def d_X8_levelsIn_l26s (x1 : Int32) (m : dc_M) : (Int64 × Int32 × Int32) → Option ((Int64 × Int32 × Int32) ⊕ Int64) := fun s => d_X8_levelsIn_l26b x1 s.1 s.2.1 s.2.2 m
noncomputable def d_X8_levelsIn_l26 (x1 : Int32) (x2 : Int64) (x4 : Int32) (x5 : Int32) (m : dc_M) : Option Int64 := dc_lp (d_X8_levelsIn_l26s x1 m) (x2, x4, x5)
set_option maxHeartbeats 8000000 in
theorem k_X8_levelsIn_l26 {u : Nat} {Φ : (Option Int64) → Option Value → dc_M → Prop} (x1 : Int32) (m : dc_M) (kR : ∀ (v : Int64), Φ (some (v)) (some (.long v)) m) : ∀ (N : Nat), ∀ (x2 : Int64) (x4 : Int32) (x5 : Int32) (lv : ab_L), ab_lk lv 1 = some (.int x1) → ab_lk lv 2 = some (.long x2) → ab_lk lv 4 = some (.int x4) → ab_lk lv 5 = some (.int x5) → dc_pv u N ab_M_X8_levelsIn 26 lv [] m (Φ (d_X8_levelsIn_l26 x1 x2 x4 x5 m)) := by
  intro N
  induction N with
  | zero => intros; exact dc_pv_zero
  | succ N ih =>
    intro x2 x4 x5 lv f1 f2 f4 f5
    refine dc_ok (C := C_X8_levelsIn) (S := S_X8_levelsIn) CO_X8_levelsIn 400 26 [(1, .int x1), (2, .long x2), (4, .int x4), (5, .int x5)] lv [] m (dc_sub_cons f1 (dc_sub_cons f2 (dc_sub_cons f4 (dc_sub_cons f5 (dc_sub_nil))))) ?_
    unfold d_X8_levelsIn_l26
    rw [dc_lp_eq]
    show (fun t x => dc_lf u N ab_M_X8_levelsIn (Φ (Option.bind t (dc_bk (d_X8_levelsIn_l26s x1 m)))) x) (d_X8_levelsIn_l26b x1 x2 x4 x5 m) _
    dsimp only
    unfold d_X8_levelsIn_l26b
    refine dg_s (pc' := 28) [.int x5] rfl (fun _ => rfl) rfl ?_
    refine dg_s (pc' := 29) [.int x1, .int x5] rfl (fun _ => rfl) rfl ?_
    refine dw_if (fun t => Φ (Option.bind t (dc_bk (d_X8_levelsIn_l26s x1 m)))) ((Int32.toInt x1) ≤ (Int32.toInt x5)) [] 93 32 rfl (fun _ => rfl) (fun c0 => ?_) (fun c0 => ?_)
    · refine dw_g rfl ?_
      refine dg_s (pc' := 94) [.long x2] rfl (fun _ => rfl) rfl ?_
      exact dw_r (some (.inl (some (.long x2), m))) rfl (fun _ => rfl) (kR _)
    · refine dw_g rfl ?_
      refine dg_s (pc' := 34) [.int x5] rfl (fun _ => rfl) rfl ?_
      refine dg_s (pc' := 36) [.int (6 : Int32), .int x5] rfl (fun _ => rfl) rfl ?_
      refine dw_if (fun t => Φ (Option.bind t (dc_bk (d_X8_levelsIn_l26s x1 m)))) (6 ≤ (Int32.toInt x5)) [] 93 39 rfl (fun _ => rfl) (fun c1 => ?_) (fun c1 => ?_)
      · refine dw_g rfl ?_
        refine dg_s (pc' := 94) [.long x2] rfl (fun _ => rfl) rfl ?_
        exact dw_r (some (.inl (some (.long x2), m))) rfl (fun _ => rfl) (kR _)
      · refine dw_g rfl ?_
        refine dg_s (pc' := 41) [.int x4] rfl (fun _ => rfl) rfl ?_
        refine dg_s (pc' := 42) [.int (3 : Int32), .int x4] rfl (fun _ => rfl) rfl ?_
        refine dg_s (pc' := 43) [.int (x4 - x4 / (3 : Int32) * (3 : Int32))] rfl (fun _ => rfl) rfl ?_
        refine dg_L (pc' := 45) [(6, .int (x4 - x4 / (3 : Int32) * (3 : Int32))), (1, .int x1), (2, .long x2), (4, .int x4), (5, .int x5)] [] rfl (fun _ => rfl) rfl ?_
        refine dg_s (pc' := 47) [.int x4] rfl (fun _ => rfl) rfl ?_
        refine dg_s (pc' := 48) [.int (3 : Int32), .int x4] rfl (fun _ => rfl) rfl ?_
        refine dg_s (pc' := 49) [.int (x4 / (3 : Int32))] rfl (fun _ => rfl) rfl ?_
        refine dg_L (pc' := 51) [(4, .int (x4 / (3 : Int32))), (6, .int (x4 - x4 / (3 : Int32) * (3 : Int32))), (1, .int x1), (2, .long x2), (5, .int x5)] [] rfl (fun _ => rfl) rfl ?_
        refine dg_s (pc' := 53) [.int (x4 - x4 / (3 : Int32) * (3 : Int32))] rfl (fun _ => rfl) rfl ?_
        refine dw_if (fun t => Φ (Option.bind t (dc_bk (d_X8_levelsIn_l26s x1 m)))) (¬ (Int32.toInt (x4 - x4 / (3 : Int32) * (3 : Int32))) = 0) [] 72 56 rfl (fun _ => rfl) (fun c2 => ?_) (fun c2 => ?_)
        · refine dw_g rfl ?_
          refine dg_s (pc' := 74) [.int (x4 - x4 / (3 : Int32) * (3 : Int32))] rfl (fun _ => rfl) rfl ?_
          refine dg_s (pc' := 75) [.int (1 : Int32), .int (x4 - x4 / (3 : Int32) * (3 : Int32))] rfl (fun _ => rfl) rfl ?_
          refine dw_if (fun t => Φ (Option.bind t (dc_bk (d_X8_levelsIn_l26s x1 m)))) (¬ (Int32.toInt (x4 - x4 / (3 : Int32) * (3 : Int32))) = 1) [] 87 78 rfl (fun _ => rfl) (fun c3 => ?_) (fun c3 => ?_)
          · refine dw_g rfl ?_
            refine dg_L (pc' := 90) [(5, .int (x5 + (1 : Int32))), (4, .int (x4 / (3 : Int32))), (6, .int (x4 - x4 / (3 : Int32) * (3 : Int32))), (1, .int x1), (2, .long x2)] [] rfl (fun _ => rfl) rfl ?_
            refine dw_s (pc' := 26) [] rfl (fun _ => rfl) ?_
            exact dw_j rfl (fun lv1 hv => ih x2 (x4 / (3 : Int32)) (x5 + (1 : Int32)) lv1 (hv.1 _ rfl) (hv.2.1 _ rfl) (hv.2.2.1 _ rfl) (hv.2.2.2.1 _ rfl))
          · refine dw_g rfl ?_
            refine dg_s (pc' := 79) [.long x2] rfl (fun _ => rfl) rfl ?_
            refine dg_s (pc' := 82) [.retAddr 0, .long x2] rfl (fun _ => rfl) rfl ?_
            refine dg_s (pc' := 84) [.int x5, .retAddr 0, .long x2] rfl (fun _ => rfl) rfl ?_
            refine dg_s (pc' := 85) [.long (ab_hi (Int32.toNatClampNeg x5)), .long x2] rfl (fun _ => rfl) rfl ?_
            refine dg_s (pc' := 86) [.long (x2 &&& (ab_hi (Int32.toNatClampNeg x5)))] rfl (fun _ => rfl) rfl ?_
            refine dg_L (pc' := 87) [(2, .long (x2 &&& (ab_hi (Int32.toNatClampNeg x5)))), (4, .int (x4 / (3 : Int32))), (6, .int (x4 - x4 / (3 : Int32) * (3 : Int32))), (1, .int x1), (5, .int x5)] [] rfl (fun _ => rfl) rfl ?_
            refine dg_L (pc' := 90) [(5, .int (x5 + (1 : Int32))), (2, .long (x2 &&& (ab_hi (Int32.toNatClampNeg x5)))), (4, .int (x4 / (3 : Int32))), (6, .int (x4 - x4 / (3 : Int32) * (3 : Int32))), (1, .int x1)] [] rfl (fun _ => rfl) rfl ?_
            refine dw_s (pc' := 26) [] rfl (fun _ => rfl) ?_
            exact dw_j rfl (fun lv1 hv => ih (x2 &&& (ab_hi (Int32.toNatClampNeg x5))) (x4 / (3 : Int32)) (x5 + (1 : Int32)) lv1 (hv.1 _ rfl) (hv.2.1 _ rfl) (hv.2.2.1 _ rfl) (hv.2.2.2.1 _ rfl))
        · refine dw_g rfl ?_
          refine dg_s (pc' := 57) [.long x2] rfl (fun _ => rfl) rfl ?_
          refine dg_s (pc' := 60) [.retAddr 0, .long x2] rfl (fun _ => rfl) rfl ?_
          refine dg_s (pc' := 62) [.int x5, .retAddr 0, .long x2] rfl (fun _ => rfl) rfl ?_
          refine dg_s (pc' := 63) [.long (ab_hi (Int32.toNatClampNeg x5)), .long x2] rfl (fun _ => rfl) rfl ?_
          refine dg_s (pc' := 66) [.long (-1 : Int64), .long (ab_hi (Int32.toNatClampNeg x5)), .long x2] rfl (fun _ => rfl) rfl ?_
          refine dg_s (pc' := 67) [.long ((ab_hi (Int32.toNatClampNeg x5)) ^^^ (-1 : Int64)), .long x2] rfl (fun _ => rfl) rfl ?_
          refine dg_s (pc' := 68) [.long (x2 &&& ((ab_hi (Int32.toNatClampNeg x5)) ^^^ (-1 : Int64)))] rfl (fun _ => rfl) rfl ?_
          refine dg_L (pc' := 69) [(2, .long (x2 &&& ((ab_hi (Int32.toNatClampNeg x5)) ^^^ (-1 : Int64)))), (4, .int (x4 / (3 : Int32))), (6, .int (x4 - x4 / (3 : Int32) * (3 : Int32))), (1, .int x1), (5, .int x5)] [] rfl (fun _ => rfl) rfl ?_
          refine dg_s (pc' := 87) [] rfl (fun _ => rfl) rfl ?_
          refine dg_L (pc' := 90) [(5, .int (x5 + (1 : Int32))), (2, .long (x2 &&& ((ab_hi (Int32.toNatClampNeg x5)) ^^^ (-1 : Int64)))), (4, .int (x4 / (3 : Int32))), (6, .int (x4 - x4 / (3 : Int32) * (3 : Int32))), (1, .int x1)] [] rfl (fun _ => rfl) rfl ?_
          refine dw_s (pc' := 26) [] rfl (fun _ => rfl) ?_
          exact dw_j rfl (fun lv1 hv => ih (x2 &&& ((ab_hi (Int32.toNatClampNeg x5)) ^^^ (-1 : Int64))) (x4 / (3 : Int32)) (x5 + (1 : Int32)) lv1 (hv.1 _ rfl) (hv.2.1 _ rfl) (hv.2.2.1 _ rfl) (hv.2.2.2.1 _ rfl))
noncomputable def d_X8_levelsIn (x0 : Int32) (x1 : Int32) (m : dc_M) : Option Int64 :=
  (if (Int32.toInt x1) < 6 then (d_X8_levelsIn_l26 x1 (((1 : Int64) <<< (Int32.toInt64 ((1 : Int32) <<< (x1 &&& 31)) &&& 63)) - (1 : Int64)) x0 (0 : Int32) m) else (d_X8_levelsIn_l26 x1 (-1 : Int64) x0 (0 : Int32) m))
set_option maxHeartbeats 8000000 in
theorem k_X8_levelsIn {u : Nat} {N : Nat} {Φ : (Option Int64) → Option Value → dc_M → Prop} (x0 : Int32) (x1 : Int32) (m : dc_M) (kR : ∀ (v : Int64), Φ (some (v)) (some (.long v)) m)  {lv : ab_L} (f0 : ab_lk lv 0 = some (.int x0)) (f1 : ab_lk lv 1 = some (.int x1)) : dc_pv u N ab_M_X8_levelsIn 0 lv [] m (Φ (d_X8_levelsIn x0 x1 m)) := by
  refine dc_pv.mono (dc_ok (C := C_X8_levelsIn) (S := S_X8_levelsIn) CO_X8_levelsIn 400 0 [(0, .int x0), (1, .int x1)] lv [] m (dc_sub_cons f0 (dc_sub_cons f1 (dc_sub_nil))) ?_) (Nat.le_succ N)
  unfold d_X8_levelsIn
  refine dg_s (pc' := 1) [.int x1] rfl (fun _ => rfl) rfl ?_
  refine dg_s (pc' := 3) [.int (6 : Int32), .int x1] rfl (fun _ => rfl) rfl ?_
  refine dw_if (fun t => Φ t) ((Int32.toInt x1) < 6) [] 12 6 rfl (fun _ => rfl) (fun c0 => ?_) (fun c0 => ?_)
  · refine dw_g rfl ?_
    refine dg_s (pc' := 13) [.long (1 : Int64)] rfl (fun _ => rfl) rfl ?_
    refine dg_s (pc' := 14) [.int (1 : Int32), .long (1 : Int64)] rfl (fun _ => rfl) rfl ?_
    refine dg_s (pc' := 15) [.int x1, .int (1 : Int32), .long (1 : Int64)] rfl (fun _ => rfl) rfl ?_
    refine dg_s (pc' := 16) [.int ((1 : Int32) <<< (x1 &&& 31)), .long (1 : Int64)] rfl (fun _ => rfl) rfl ?_
    refine dg_s (pc' := 17) [.long ((1 : Int64) <<< (Int32.toInt64 ((1 : Int32) <<< (x1 &&& 31)) &&& 63))] rfl (fun _ => rfl) rfl ?_
    refine dg_s (pc' := 18) [.long (1 : Int64), .long ((1 : Int64) <<< (Int32.toInt64 ((1 : Int32) <<< (x1 &&& 31)) &&& 63))] rfl (fun _ => rfl) rfl ?_
    refine dg_s (pc' := 19) [.long (((1 : Int64) <<< (Int32.toInt64 ((1 : Int32) <<< (x1 &&& 31)) &&& 63)) - (1 : Int64))] rfl (fun _ => rfl) rfl ?_
    refine dg_L (pc' := 20) [(2, .long (((1 : Int64) <<< (Int32.toInt64 ((1 : Int32) <<< (x1 &&& 31)) &&& 63)) - (1 : Int64))), (0, .int x0), (1, .int x1)] [] rfl (fun _ => rfl) rfl ?_
    refine dg_s (pc' := 21) [.int x0] rfl (fun _ => rfl) rfl ?_
    refine dg_L (pc' := 23) [(4, .int x0), (2, .long (((1 : Int64) <<< (Int32.toInt64 ((1 : Int32) <<< (x1 &&& 31)) &&& 63)) - (1 : Int64))), (0, .int x0), (1, .int x1)] [] rfl (fun _ => rfl) rfl ?_
    refine dg_s (pc' := 24) [.int (0 : Int32)] rfl (fun _ => rfl) rfl ?_
    refine dw_L (pc' := 26) [(5, .int (0 : Int32)), (4, .int x0), (2, .long (((1 : Int64) <<< (Int32.toInt64 ((1 : Int32) <<< (x1 &&& 31)) &&& 63)) - (1 : Int64))), (0, .int x0), (1, .int x1)] [] rfl (fun _ => rfl) ?_
    exact dw_j rfl (fun lv1 hv => k_X8_levelsIn_l26 (Φ := (fun t => Φ t)) x1 m (fun _a  => kR _a) N  (((1 : Int64) <<< (Int32.toInt64 ((1 : Int32) <<< (x1 &&& 31)) &&& 63)) - (1 : Int64)) x0 (0 : Int32) lv1 (hv.1 _ rfl) (hv.2.1 _ rfl) (hv.2.2.1 _ rfl) (hv.2.2.2.1 _ rfl))
  · refine dw_g rfl ?_
    refine dg_s (pc' := 9) [.long (-1 : Int64)] rfl (fun _ => rfl) rfl ?_
    refine dg_s (pc' := 19) [.long (-1 : Int64)] rfl (fun _ => rfl) rfl ?_
    refine dg_L (pc' := 20) [(2, .long (-1 : Int64)), (0, .int x0), (1, .int x1)] [] rfl (fun _ => rfl) rfl ?_
    refine dg_s (pc' := 21) [.int x0] rfl (fun _ => rfl) rfl ?_
    refine dg_L (pc' := 23) [(4, .int x0), (2, .long (-1 : Int64)), (0, .int x0), (1, .int x1)] [] rfl (fun _ => rfl) rfl ?_
    refine dg_s (pc' := 24) [.int (0 : Int32)] rfl (fun _ => rfl) rfl ?_
    refine dw_L (pc' := 26) [(5, .int (0 : Int32)), (4, .int x0), (2, .long (-1 : Int64)), (0, .int x0), (1, .int x1)] [] rfl (fun _ => rfl) ?_
    exact dw_j rfl (fun lv1 hv => k_X8_levelsIn_l26 (Φ := (fun t => Φ t)) x1 m (fun _a  => kR _a) N  (-1 : Int64) x0 (0 : Int32) lv1 (hv.1 _ rfl) (hv.2.1 _ rfl) (hv.2.2.1 _ rfl) (hv.2.2.2.1 _ rfl))
noncomputable def H_X8_levelsIn : dc_H := fun As m k => match As with
  | [.int x0, .int x1] => (d_X8_levelsIn x0 x1 m).bind (fun q => k (some (.long q)) m)
  | _ => dc_kz
theorem H_X8_levelsIn_ok {u : Nat} : dc_cok u 98 H_X8_levelsIn := fun M' hG N As m k P hz hP => by
  obtain rfl : ab_M_X8_levelsIn = M' := Option.some.inj hG
  unfold H_X8_levelsIn at hP
  split at hP
  · rename_i x0 x1
    exact dc_pv.imp (k_X8_levelsIn (Φ := fun (t : Option Int64) r m' => P (t.bind (fun q => k (some (.long q)) m)) → P (k r m')) x0 x1 m (fun _  h => h) rfl rfl) (fun r m' h => h hP)
  · exact absurd hP hz
def C_X8_hasUnlikeAims : List (Nat × dc_H) := []
theorem CO_X8_hasUnlikeAims {u : Nat} : dc_CO u C_X8_hasUnlikeAims := dc_CO_nil
def S_X8_hasUnlikeAims : List (Nat × List Nat) := []
def d_X8_hasUnlikeAims (x0 : Nat) (x1 : Int32) (m : dc_M) : Int32 :=
  (if (Int32.toInt (lg_cmp ((m.2.1 (x0 + 1) (Int32.toNatClampNeg x1)) &&& (m.2.1 (x0 + 2) (Int32.toNatClampNeg x1))) (0 : Int64))) = 0 then (0 : Int32) else (1 : Int32))
set_option maxHeartbeats 8000000 in
theorem k_X8_hasUnlikeAims {u : Nat} {N : Nat} {Φ : Int32 → Option Value → dc_M → Prop} (x0 : Nat) (x1 : Int32) (m : dc_M) (kR : ∀ (v : Int32), Φ (v) (some (.int v)) m)  {lv : ab_L} (f0 : ab_lk lv 0 = some (.ref x0)) (f1 : ab_lk lv 1 = some (.int x1)) : dc_pv u N ab_M_X8_hasUnlikeAims 0 lv [] m (Φ (d_X8_hasUnlikeAims x0 x1 m)) := by
  refine dc_pv.mono (dc_ok (C := C_X8_hasUnlikeAims) (S := S_X8_hasUnlikeAims) CO_X8_hasUnlikeAims 400 0 [(0, .ref x0), (1, .int x1)] lv [] m (dc_sub_cons f0 (dc_sub_cons f1 (dc_sub_nil))) ?_) (Nat.le_succ N)
  unfold d_X8_hasUnlikeAims
  refine dg_s (pc' := 1) [.ref x0] rfl (fun _ => rfl) rfl ?_
  refine dg_s (pc' := 4) [.ref (x0 + 1)] rfl (fun _ => rfl) rfl ?_
  refine dg_s (pc' := 5) [.int x1, .ref (x0 + 1)] rfl (fun _ => rfl) rfl ?_
  refine dg_s (pc' := 6) [.long (m.2.1 (x0 + 1) (Int32.toNatClampNeg x1))] rfl (fun _ => rfl) rfl ?_
  refine dg_s (pc' := 7) [.ref x0, .long (m.2.1 (x0 + 1) (Int32.toNatClampNeg x1))] rfl (fun _ => rfl) rfl ?_
  refine dg_s (pc' := 10) [.ref (x0 + 2), .long (m.2.1 (x0 + 1) (Int32.toNatClampNeg x1))] rfl (fun _ => rfl) rfl ?_
  refine dg_s (pc' := 11) [.int x1, .ref (x0 + 2), .long (m.2.1 (x0 + 1) (Int32.toNatClampNeg x1))] rfl (fun _ => rfl) rfl ?_
  refine dg_s (pc' := 12) [.long (m.2.1 (x0 + 2) (Int32.toNatClampNeg x1)), .long (m.2.1 (x0 + 1) (Int32.toNatClampNeg x1))] rfl (fun _ => rfl) rfl ?_
  refine dg_s (pc' := 13) [.long ((m.2.1 (x0 + 1) (Int32.toNatClampNeg x1)) &&& (m.2.1 (x0 + 2) (Int32.toNatClampNeg x1)))] rfl (fun _ => rfl) rfl ?_
  refine dg_s (pc' := 14) [.long (0 : Int64), .long ((m.2.1 (x0 + 1) (Int32.toNatClampNeg x1)) &&& (m.2.1 (x0 + 2) (Int32.toNatClampNeg x1)))] rfl (fun _ => rfl) rfl ?_
  refine dg_s (pc' := 15) [.int (lg_cmp ((m.2.1 (x0 + 1) (Int32.toNatClampNeg x1)) &&& (m.2.1 (x0 + 2) (Int32.toNatClampNeg x1))) (0 : Int64))] rfl (fun _ => rfl) rfl ?_
  refine dw_if (fun t => Φ t) ((Int32.toInt (lg_cmp ((m.2.1 (x0 + 1) (Int32.toNatClampNeg x1)) &&& (m.2.1 (x0 + 2) (Int32.toNatClampNeg x1))) (0 : Int64))) = 0) [] 22 18 rfl (fun _ => rfl) (fun c0 => ?_) (fun c0 => ?_)
  · refine dw_g rfl ?_
    refine dg_s (pc' := 23) [.int (0 : Int32)] rfl (fun _ => rfl) rfl ?_
    exact dw_r (some (.inl (some (.int (0 : Int32)), m))) rfl (fun _ => rfl) (kR _)
  · refine dw_g rfl ?_
    refine dg_s (pc' := 19) [.int (1 : Int32)] rfl (fun _ => rfl) rfl ?_
    refine dg_s (pc' := 23) [.int (1 : Int32)] rfl (fun _ => rfl) rfl ?_
    exact dw_r (some (.inl (some (.int (1 : Int32)), m))) rfl (fun _ => rfl) (kR _)
def H_X8_hasUnlikeAims : dc_H := fun As m k => match As with
  | [.ref x0, .int x1] => k (some (.int (d_X8_hasUnlikeAims x0 x1 m))) m
  | _ => dc_kz
theorem H_X8_hasUnlikeAims_ok {u : Nat} : dc_cok u 94 H_X8_hasUnlikeAims := fun M' hG N As m k P hz hP => by
  obtain rfl : ab_M_X8_hasUnlikeAims = M' := Option.some.inj hG
  unfold H_X8_hasUnlikeAims at hP
  split at hP
  · rename_i x0 x1
    exact dc_pv.imp (k_X8_hasUnlikeAims (Φ := fun (t : Int32) r m' => P (k (some (.int t)) m) → P (k r m')) x0 x1 m (fun _  h => h) rfl rfl) (fun r m' h => h hP)
  · exact absurd hP hz
noncomputable def C_X9_canBeMade : List (Nat × dc_H) := [(94, H_X8_hasUnlikeAims), (137, H_X9_gatherSums), (135, H_X9_isRight)]
theorem CO_X9_canBeMade {u : Nat} : dc_CO u C_X9_canBeMade := dc_CO_cons H_X8_hasUnlikeAims_ok (dc_CO_cons H_X9_gatherSums_ok (dc_CO_cons H_X9_isRight_ok (dc_CO_nil)))
def S_X9_canBeMade : List (Nat × List Nat) := []
noncomputable def d_X9_canBeMade (x0 : Nat) (x1 : Int32) (m : dc_M) : Option (Int32 × dc_M) :=
  ((d_X9_isRight x0 m).bind (fun q1 => (if ¬ (Int32.toInt q1.1) = 0 then ((d_X9_gatherSums x0 q1.2).bind (fun q2 => (if ¬ (Int32.toInt (d_X8_hasUnlikeAims (x0 + 14) x1 q2)) = 0 then some (((0 : Int32), q2)) else some (((1 : Int32), q2))))) else some (((0 : Int32), q1.2)))))
set_option maxHeartbeats 8000000 in
theorem k_X9_canBeMade {u : Nat} {N : Nat} {Φ : (Option (Int32 × dc_M)) → Option Value → dc_M → Prop} (x0 : Nat) (x1 : Int32) (m : dc_M) (kR : ∀ (v : Int32) (m : dc_M), Φ (some ((v, m))) (some (.int v)) m)  {lv : ab_L} (f0 : ab_lk lv 0 = some (.ref x0)) (f1 : ab_lk lv 1 = some (.int x1)) : dc_pv u N ab_M_X9_canBeMade 0 lv [] m (Φ (d_X9_canBeMade x0 x1 m)) := by
  refine dc_pv.mono (dc_ok (C := C_X9_canBeMade) (S := S_X9_canBeMade) CO_X9_canBeMade 400 0 [(0, .ref x0), (1, .int x1)] lv [] m (dc_sub_cons f0 (dc_sub_cons f1 (dc_sub_nil))) ?_) (Nat.le_succ N)
  unfold d_X9_canBeMade
  refine dg_s (pc' := 1) [.ref x0] rfl (fun _ => rfl) rfl ?_
  refine dw_b (fun t => Φ t) (pc' := 4) (fun q1 => [.int q1.1]) (fun q1 => q1.2) rfl (fun _ => rfl) (fun q1 => ?_)
  refine dw_g rfl ?_
  refine dw_if (fun t => Φ t) (¬ (Int32.toInt q1.1) = 0) [] 9 7 rfl (fun _ => rfl) (fun c0 => ?_) (fun c0 => ?_)
  · refine dw_g rfl ?_
    refine dg_s (pc' := 10) [.ref x0] rfl (fun _ => rfl) rfl ?_
    refine dw_b (fun t => Φ t) (pc' := 13) (fun q2 => []) (fun q2 => q2) rfl (fun _ => rfl) (fun q2 => ?_)
    refine dw_g rfl ?_
    refine dg_s (pc' := 14) [.ref x0] rfl (fun _ => rfl) rfl ?_
    refine dg_s (pc' := 17) [.ref (x0 + 14)] rfl (fun _ => rfl) rfl ?_
    refine dg_s (pc' := 18) [.int x1, .ref (x0 + 14)] rfl (fun _ => rfl) rfl ?_
    refine dg_s (pc' := 21) [.int (d_X8_hasUnlikeAims (x0 + 14) x1 q2)] rfl (fun _ => rfl) rfl ?_
    refine dw_if (fun t => Φ t) (¬ (Int32.toInt (d_X8_hasUnlikeAims (x0 + 14) x1 q2)) = 0) [] 28 24 rfl (fun _ => rfl) (fun c1 => ?_) (fun c1 => ?_)
    · refine dw_g rfl ?_
      refine dg_s (pc' := 29) [.int (0 : Int32)] rfl (fun _ => rfl) rfl ?_
      exact dw_r (some (.inl (some (.int (0 : Int32)), q2))) rfl (fun _ => rfl) (kR _ _)
    · refine dw_g rfl ?_
      refine dg_s (pc' := 25) [.int (1 : Int32)] rfl (fun _ => rfl) rfl ?_
      refine dg_s (pc' := 29) [.int (1 : Int32)] rfl (fun _ => rfl) rfl ?_
      exact dw_r (some (.inl (some (.int (1 : Int32)), q2))) rfl (fun _ => rfl) (kR _ _)
  · refine dw_g rfl ?_
    refine dg_s (pc' := 8) [.int (0 : Int32)] rfl (fun _ => rfl) rfl ?_
    exact dw_r (some (.inl (some (.int (0 : Int32)), q1.2))) rfl (fun _ => rfl) (kR _ _)
noncomputable def H_X9_canBeMade : dc_H := fun As m k => match As with
  | [.ref x0, .int x1] => (d_X9_canBeMade x0 x1 m).bind (fun q => k (some (.int q.1)) q.2)
  | _ => dc_kz
theorem H_X9_canBeMade_ok {u : Nat} : dc_cok u 138 H_X9_canBeMade := fun M' hG N As m k P hz hP => by
  obtain rfl : ab_M_X9_canBeMade = M' := Option.some.inj hG
  unfold H_X9_canBeMade at hP
  split at hP
  · rename_i x0 x1
    exact dc_pv.imp (k_X9_canBeMade (Φ := fun (t : Option (Int32 × dc_M)) r m' => P (t.bind (fun q => k (some (.int q.1)) q.2)) → P (k r m')) x0 x1 m (fun _ _ h => h) rfl rfl) (fun r m' h => h hP)
  · exact absurd hP hz
def C_X9_isLane : List (Nat × dc_H) := []
theorem CO_X9_isLane {u : Nat} : dc_CO u C_X9_isLane := dc_CO_nil
def S_X9_isLane : List (Nat × List Nat) := []
def d_X9_isLane (x0 : Int32) (m : dc_M) : Int32 :=
  (if (Int32.toInt x0) < 0 then (0 : Int32) else (if 3 ≤ (Int32.toInt x0) then (0 : Int32) else (1 : Int32)))
set_option maxHeartbeats 8000000 in
theorem k_X9_isLane {u : Nat} {N : Nat} {Φ : Int32 → Option Value → dc_M → Prop} (x0 : Int32) (m : dc_M) (kR : ∀ (v : Int32), Φ (v) (some (.int v)) m)  {lv : ab_L} (f0 : ab_lk lv 0 = some (.int x0)) : dc_pv u N ab_M_X9_isLane 0 lv [] m (Φ (d_X9_isLane x0 m)) := by
  refine dc_pv.mono (dc_ok (C := C_X9_isLane) (S := S_X9_isLane) CO_X9_isLane 400 0 [(0, .int x0)] lv [] m (dc_sub_cons f0 (dc_sub_nil)) ?_) (Nat.le_succ N)
  unfold d_X9_isLane
  refine dg_s (pc' := 1) [.int x0] rfl (fun _ => rfl) rfl ?_
  refine dw_if (fun t => Φ t) ((Int32.toInt x0) < 0) [] 13 4 rfl (fun _ => rfl) (fun c0 => ?_) (fun c0 => ?_)
  · refine dw_g rfl ?_
    refine dg_s (pc' := 14) [.int (0 : Int32)] rfl (fun _ => rfl) rfl ?_
    exact dw_r (some (.inl (some (.int (0 : Int32)), m))) rfl (fun _ => rfl) (kR _)
  · refine dw_g rfl ?_
    refine dg_s (pc' := 5) [.int x0] rfl (fun _ => rfl) rfl ?_
    refine dg_s (pc' := 6) [.int (3 : Int32), .int x0] rfl (fun _ => rfl) rfl ?_
    refine dw_if (fun t => Φ t) (3 ≤ (Int32.toInt x0)) [] 13 9 rfl (fun _ => rfl) (fun c1 => ?_) (fun c1 => ?_)
    · refine dw_g rfl ?_
      refine dg_s (pc' := 14) [.int (0 : Int32)] rfl (fun _ => rfl) rfl ?_
      exact dw_r (some (.inl (some (.int (0 : Int32)), m))) rfl (fun _ => rfl) (kR _)
    · refine dw_g rfl ?_
      refine dg_s (pc' := 10) [.int (1 : Int32)] rfl (fun _ => rfl) rfl ?_
      refine dg_s (pc' := 14) [.int (1 : Int32)] rfl (fun _ => rfl) rfl ?_
      exact dw_r (some (.inl (some (.int (1 : Int32)), m))) rfl (fun _ => rfl) (kR _)
def H_X9_isLane : dc_H := fun As m k => match As with
  | [.int x0] => k (some (.int (d_X9_isLane x0 m))) m
  | _ => dc_kz
theorem H_X9_isLane_ok {u : Nat} : dc_cok u 132 H_X9_isLane := fun M' hG N As m k P hz hP => by
  obtain rfl : ab_M_X9_isLane = M' := Option.some.inj hG
  unfold H_X9_isLane at hP
  split at hP
  · rename_i x0
    exact dc_pv.imp (k_X9_isLane (Φ := fun (t : Int32) r m' => P (k (some (.int t)) m) → P (k r m')) x0 m (fun _  h => h) rfl) (fun r m' h => h hP)
  · exact absurd hP hz
def C_X9_isSheet : List (Nat × dc_H) := []
theorem CO_X9_isSheet {u : Nat} : dc_CO u C_X9_isSheet := dc_CO_nil
def S_X9_isSheet : List (Nat × List Nat) := []
def d_X9_isSheet (x0 : Int32) (m : dc_M) : Int32 :=
  (if (Int32.toInt x0) < 0 then (0 : Int32) else (if 4 ≤ (Int32.toInt x0) then (0 : Int32) else (1 : Int32)))
set_option maxHeartbeats 8000000 in
theorem k_X9_isSheet {u : Nat} {N : Nat} {Φ : Int32 → Option Value → dc_M → Prop} (x0 : Int32) (m : dc_M) (kR : ∀ (v : Int32), Φ (v) (some (.int v)) m)  {lv : ab_L} (f0 : ab_lk lv 0 = some (.int x0)) : dc_pv u N ab_M_X9_isSheet 0 lv [] m (Φ (d_X9_isSheet x0 m)) := by
  refine dc_pv.mono (dc_ok (C := C_X9_isSheet) (S := S_X9_isSheet) CO_X9_isSheet 400 0 [(0, .int x0)] lv [] m (dc_sub_cons f0 (dc_sub_nil)) ?_) (Nat.le_succ N)
  unfold d_X9_isSheet
  refine dg_s (pc' := 1) [.int x0] rfl (fun _ => rfl) rfl ?_
  refine dw_if (fun t => Φ t) ((Int32.toInt x0) < 0) [] 13 4 rfl (fun _ => rfl) (fun c0 => ?_) (fun c0 => ?_)
  · refine dw_g rfl ?_
    refine dg_s (pc' := 14) [.int (0 : Int32)] rfl (fun _ => rfl) rfl ?_
    exact dw_r (some (.inl (some (.int (0 : Int32)), m))) rfl (fun _ => rfl) (kR _)
  · refine dw_g rfl ?_
    refine dg_s (pc' := 5) [.int x0] rfl (fun _ => rfl) rfl ?_
    refine dg_s (pc' := 6) [.int (4 : Int32), .int x0] rfl (fun _ => rfl) rfl ?_
    refine dw_if (fun t => Φ t) (4 ≤ (Int32.toInt x0)) [] 13 9 rfl (fun _ => rfl) (fun c1 => ?_) (fun c1 => ?_)
    · refine dw_g rfl ?_
      refine dg_s (pc' := 14) [.int (0 : Int32)] rfl (fun _ => rfl) rfl ?_
      exact dw_r (some (.inl (some (.int (0 : Int32)), m))) rfl (fun _ => rfl) (kR _)
    · refine dw_g rfl ?_
      refine dg_s (pc' := 10) [.int (1 : Int32)] rfl (fun _ => rfl) rfl ?_
      refine dg_s (pc' := 14) [.int (1 : Int32)] rfl (fun _ => rfl) rfl ?_
      exact dw_r (some (.inl (some (.int (1 : Int32)), m))) rfl (fun _ => rfl) (kR _)
def H_X9_isSheet : dc_H := fun As m k => match As with
  | [.int x0] => k (some (.int (d_X9_isSheet x0 m))) m
  | _ => dc_kz
theorem H_X9_isSheet_ok {u : Nat} : dc_cok u 131 H_X9_isSheet := fun M' hG N As m k P hz hP => by
  obtain rfl : ab_M_X9_isSheet = M' := Option.some.inj hG
  unfold H_X9_isSheet at hP
  split at hP
  · rename_i x0
    exact dc_pv.imp (k_X9_isSheet (Φ := fun (t : Int32) r m' => P (k (some (.int t)) m) → P (k r m')) x0 m (fun _  h => h) rfl) (fun r m' h => h hP)
  · exact absurd hP hz
noncomputable def C_X9_judge : List (Nat × dc_H) := [(28, H_X3_isMade), (78, H_X6_faultAs), (79, H_X6_hasCells), (95, H_X8_isCube), (98, H_X8_levelsIn), (138, H_X9_canBeMade), (132, H_X9_isLane), (131, H_X9_isSheet)]
theorem CO_X9_judge {u : Nat} : dc_CO u C_X9_judge := dc_CO_cons H_X3_isMade_ok (dc_CO_cons H_X6_faultAs_ok (dc_CO_cons H_X6_hasCells_ok (dc_CO_cons H_X8_isCube_ok (dc_CO_cons H_X8_levelsIn_ok (dc_CO_cons H_X9_canBeMade_ok (dc_CO_cons H_X9_isLane_ok (dc_CO_cons H_X9_isSheet_ok (dc_CO_nil))))))))
def S_X9_judge : List (Nat × List Nat) := [(83, [0, 1, 4, 5, 6, 8, 10]), (161, [0, 1, 8])]
noncomputable def d_X9_judge_b161 (x0 : Nat) (x1 : Int32) (x8 : Int64) (m : dc_M) : Option (Int32 × dc_M) :=
  (if (Int32.toInt (lg_cmp (x8 &&& (m.2.1 ((x0 + 14) + 2) (Int32.toNatClampNeg x1))) (0 : Int64))) = 0 then (if (Int32.toInt (lg_cmp ((m.2.1 ((x0 + 14) + 1) (Int32.toNatClampNeg x1)) &&& (x8 ^^^ (-1 : Int64))) (0 : Int64))) = 0 then some (((1 : Int32), m)) else some (((0 : Int32), m))) else some (((2 : Int32), m)))
set_option maxHeartbeats 8000000 in
theorem k_X9_judge_b161 {u : Nat} {N : Nat} {Φ : (Option (Int32 × dc_M)) → Option Value → dc_M → Prop} (x0 : Nat) (x1 : Int32) (x8 : Int64) (m : dc_M) (kR : ∀ (v : Int32) (m : dc_M), Φ (some ((v, m))) (some (.int v)) m)  {lv : ab_L} (f0 : ab_lk lv 0 = some (.ref x0)) (f1 : ab_lk lv 1 = some (.int x1)) (f8 : ab_lk lv 8 = some (.long x8)) : dc_pv u N ab_M_X9_judge 161 lv [] m (Φ (d_X9_judge_b161 x0 x1 x8 m)) := by
  refine dc_pv.mono (dc_ok (C := C_X9_judge) (S := S_X9_judge) CO_X9_judge 400 161 [(0, .ref x0), (1, .int x1), (8, .long x8)] lv [] m (dc_sub_cons f0 (dc_sub_cons f1 (dc_sub_cons f8 (dc_sub_nil)))) ?_) (Nat.le_succ N)
  unfold d_X9_judge_b161
  refine dg_s (pc' := 163) [.long x8] rfl (fun _ => rfl) rfl ?_
  refine dg_s (pc' := 164) [.ref x0, .long x8] rfl (fun _ => rfl) rfl ?_
  refine dg_s (pc' := 167) [.ref (x0 + 14), .long x8] rfl (fun _ => rfl) rfl ?_
  refine dg_s (pc' := 170) [.ref ((x0 + 14) + 2), .long x8] rfl (fun _ => rfl) rfl ?_
  refine dg_s (pc' := 171) [.int x1, .ref ((x0 + 14) + 2), .long x8] rfl (fun _ => rfl) rfl ?_
  refine dg_s (pc' := 172) [.long (m.2.1 ((x0 + 14) + 2) (Int32.toNatClampNeg x1)), .long x8] rfl (fun _ => rfl) rfl ?_
  refine dg_s (pc' := 173) [.long (x8 &&& (m.2.1 ((x0 + 14) + 2) (Int32.toNatClampNeg x1)))] rfl (fun _ => rfl) rfl ?_
  refine dg_s (pc' := 174) [.long (0 : Int64), .long (x8 &&& (m.2.1 ((x0 + 14) + 2) (Int32.toNatClampNeg x1)))] rfl (fun _ => rfl) rfl ?_
  refine dg_s (pc' := 175) [.int (lg_cmp (x8 &&& (m.2.1 ((x0 + 14) + 2) (Int32.toNatClampNeg x1))) (0 : Int64))] rfl (fun _ => rfl) rfl ?_
  refine dw_if (fun t => Φ t) ((Int32.toInt (lg_cmp (x8 &&& (m.2.1 ((x0 + 14) + 2) (Int32.toNatClampNeg x1))) (0 : Int64))) = 0) [] 180 178 rfl (fun _ => rfl) (fun c0 => ?_) (fun c0 => ?_)
  · refine dw_g rfl ?_
    refine dg_s (pc' := 181) [.ref x0] rfl (fun _ => rfl) rfl ?_
    refine dg_s (pc' := 184) [.ref (x0 + 14)] rfl (fun _ => rfl) rfl ?_
    refine dg_s (pc' := 187) [.ref ((x0 + 14) + 1)] rfl (fun _ => rfl) rfl ?_
    refine dg_s (pc' := 188) [.int x1, .ref ((x0 + 14) + 1)] rfl (fun _ => rfl) rfl ?_
    refine dg_s (pc' := 189) [.long (m.2.1 ((x0 + 14) + 1) (Int32.toNatClampNeg x1))] rfl (fun _ => rfl) rfl ?_
    refine dg_s (pc' := 191) [.long x8, .long (m.2.1 ((x0 + 14) + 1) (Int32.toNatClampNeg x1))] rfl (fun _ => rfl) rfl ?_
    refine dg_s (pc' := 194) [.long (-1 : Int64), .long x8, .long (m.2.1 ((x0 + 14) + 1) (Int32.toNatClampNeg x1))] rfl (fun _ => rfl) rfl ?_
    refine dg_s (pc' := 195) [.long (x8 ^^^ (-1 : Int64)), .long (m.2.1 ((x0 + 14) + 1) (Int32.toNatClampNeg x1))] rfl (fun _ => rfl) rfl ?_
    refine dg_s (pc' := 196) [.long ((m.2.1 ((x0 + 14) + 1) (Int32.toNatClampNeg x1)) &&& (x8 ^^^ (-1 : Int64)))] rfl (fun _ => rfl) rfl ?_
    refine dg_s (pc' := 197) [.long (0 : Int64), .long ((m.2.1 ((x0 + 14) + 1) (Int32.toNatClampNeg x1)) &&& (x8 ^^^ (-1 : Int64)))] rfl (fun _ => rfl) rfl ?_
    refine dg_s (pc' := 198) [.int (lg_cmp ((m.2.1 ((x0 + 14) + 1) (Int32.toNatClampNeg x1)) &&& (x8 ^^^ (-1 : Int64))) (0 : Int64))] rfl (fun _ => rfl) rfl ?_
    refine dw_if (fun t => Φ t) ((Int32.toInt (lg_cmp ((m.2.1 ((x0 + 14) + 1) (Int32.toNatClampNeg x1)) &&& (x8 ^^^ (-1 : Int64))) (0 : Int64))) = 0) [] 205 201 rfl (fun _ => rfl) (fun c1 => ?_) (fun c1 => ?_)
    · refine dw_g rfl ?_
      refine dg_s (pc' := 206) [.int (1 : Int32)] rfl (fun _ => rfl) rfl ?_
      exact dw_r (some (.inl (some (.int (1 : Int32)), m))) rfl (fun _ => rfl) (kR _ _)
    · refine dw_g rfl ?_
      refine dg_s (pc' := 202) [.int (0 : Int32)] rfl (fun _ => rfl) rfl ?_
      refine dg_s (pc' := 206) [.int (0 : Int32)] rfl (fun _ => rfl) rfl ?_
      exact dw_r (some (.inl (some (.int (0 : Int32)), m))) rfl (fun _ => rfl) (kR _ _)
  · refine dw_g rfl ?_
    refine dg_s (pc' := 179) [.int (2 : Int32)] rfl (fun _ => rfl) rfl ?_
    exact dw_r (some (.inl (some (.int (2 : Int32)), m))) rfl (fun _ => rfl) (kR _ _)
noncomputable def d_X9_judge_l83b (x0 : Nat) (x1 : Int32) (x4 : Int32) (x5 : Int32) (x6 : Nat) (x8 : Int64) (x10 : Int32) (m : dc_M) : Option ((Int64 × Int32) ⊕ (Int32 × dc_M)) :=
  (if (Int32.toInt x5) ≤ (Int32.toInt x10) then ((d_X9_judge_b161 x0 x1 x8 m).map (fun z => Sum.inr (z))) else (if ¬ (Int32.toInt (d_X6_hasCells x6 x4 (x10 + (1 : Int32)) m)) = 0 then (if ¬ (Int32.toInt (d_X8_isCube (x0 + 14) (m.1 (x6 + 1) (Int32.toNatClampNeg (x4 + x10))) m)) = 0 then ((d_X8_levelsIn (m.1 (x6 + 1) (Int32.toNatClampNeg (x4 + x10))) (m.1 (m.2.2.1 x0 7) 0) m).bind (fun q1 => some (Sum.inl ((x8 ||| q1), (x10 + (1 : Int32)))))) else some (Sum.inr ((((-20 : Int32) - x10), m)))) else some (Sum.inr (((-12 : Int32), m)))))
noncomputable def d_X9_judge_l83s (x0 : Nat) (x1 : Int32) (x4 : Int32) (x5 : Int32) (x6 : Nat) (m : dc_M) : (Int64 × Int32) → Option ((Int64 × Int32) ⊕ (Int32 × dc_M)) := fun s => d_X9_judge_l83b x0 x1 x4 x5 x6 s.1 s.2 m
noncomputable def d_X9_judge_l83 (x0 : Nat) (x1 : Int32) (x4 : Int32) (x5 : Int32) (x6 : Nat) (x8 : Int64) (x10 : Int32) (m : dc_M) : Option (Int32 × dc_M) := dc_lp (d_X9_judge_l83s x0 x1 x4 x5 x6 m) (x8, x10)
set_option maxHeartbeats 8000000 in
theorem k_X9_judge_l83 {u : Nat} {Φ : (Option (Int32 × dc_M)) → Option Value → dc_M → Prop} (x0 : Nat) (x1 : Int32) (x4 : Int32) (x5 : Int32) (x6 : Nat) (m : dc_M) (kR : ∀ (v : Int32) (m : dc_M), Φ (some ((v, m))) (some (.int v)) m) : ∀ (N : Nat), ∀ (x8 : Int64) (x10 : Int32) (lv : ab_L), ab_lk lv 0 = some (.ref x0) → ab_lk lv 1 = some (.int x1) → ab_lk lv 4 = some (.int x4) → ab_lk lv 5 = some (.int x5) → ab_lk lv 6 = some (.ref x6) → ab_lk lv 8 = some (.long x8) → ab_lk lv 10 = some (.int x10) → dc_pv u N ab_M_X9_judge 83 lv [] m (Φ (d_X9_judge_l83 x0 x1 x4 x5 x6 x8 x10 m)) := by
  intro N
  induction N with
  | zero => intros; exact dc_pv_zero
  | succ N ih =>
    intro x8 x10 lv f0 f1 f4 f5 f6 f8 f10
    refine dc_ok (C := C_X9_judge) (S := S_X9_judge) CO_X9_judge 400 83 [(0, .ref x0), (1, .int x1), (4, .int x4), (5, .int x5), (6, .ref x6), (8, .long x8), (10, .int x10)] lv [] m (dc_sub_cons f0 (dc_sub_cons f1 (dc_sub_cons f4 (dc_sub_cons f5 (dc_sub_cons f6 (dc_sub_cons f8 (dc_sub_cons f10 (dc_sub_nil)))))))) ?_
    unfold d_X9_judge_l83
    rw [dc_lp_eq]
    show (fun t x => dc_lf u N ab_M_X9_judge (Φ (Option.bind t (dc_bk (d_X9_judge_l83s x0 x1 x4 x5 x6 m)))) x) (d_X9_judge_l83b x0 x1 x4 x5 x6 x8 x10 m) _
    dsimp only
    unfold d_X9_judge_l83b
    refine dg_s (pc' := 85) [.int x10] rfl (fun _ => rfl) rfl ?_
    refine dg_s (pc' := 87) [.int x5, .int x10] rfl (fun _ => rfl) rfl ?_
    refine dw_if (fun t => Φ (Option.bind t (dc_bk (d_X9_judge_l83s x0 x1 x4 x5 x6 m)))) ((Int32.toInt x5) ≤ (Int32.toInt x10)) [] 161 90 rfl (fun _ => rfl) (fun c0 => ?_) (fun c0 => ?_)
    · exact dw_j rfl (fun lv1 hv => k_X9_judge_b161 (Φ := (fun t => Φ (Option.bind (t.map (fun z => Sum.inr (z))) (dc_bk (d_X9_judge_l83s x0 x1 x4 x5 x6 m))))) x0 x1 x8 m (fun _a _b => kR _a _b)  (hv.1 _ rfl) (hv.2.1 _ rfl) (hv.2.2.1 _ rfl))
    · refine dw_g rfl ?_
      refine dg_s (pc' := 92) [.ref x6] rfl (fun _ => rfl) rfl ?_
      refine dg_s (pc' := 94) [.int x4, .ref x6] rfl (fun _ => rfl) rfl ?_
      refine dg_s (pc' := 96) [.int x10, .int x4, .ref x6] rfl (fun _ => rfl) rfl ?_
      refine dg_s (pc' := 97) [.int (1 : Int32), .int x10, .int x4, .ref x6] rfl (fun _ => rfl) rfl ?_
      refine dg_s (pc' := 98) [.int (x10 + (1 : Int32)), .int x4, .ref x6] rfl (fun _ => rfl) rfl ?_
      refine dg_s (pc' := 101) [.int (d_X6_hasCells x6 x4 (x10 + (1 : Int32)) m)] rfl (fun _ => rfl) rfl ?_
      refine dw_if (fun t => Φ (Option.bind t (dc_bk (d_X9_judge_l83s x0 x1 x4 x5 x6 m)))) (¬ (Int32.toInt (d_X6_hasCells x6 x4 (x10 + (1 : Int32)) m)) = 0) [] 107 104 rfl (fun _ => rfl) (fun c1 => ?_) (fun c1 => ?_)
      · refine dw_g rfl ?_
        refine dg_s (pc' := 109) [.ref x6] rfl (fun _ => rfl) rfl ?_
        refine dg_s (pc' := 112) [.ref (x6 + 1)] rfl (fun _ => rfl) rfl ?_
        refine dg_s (pc' := 114) [.int x4, .ref (x6 + 1)] rfl (fun _ => rfl) rfl ?_
        refine dg_s (pc' := 116) [.int x10, .int x4, .ref (x6 + 1)] rfl (fun _ => rfl) rfl ?_
        refine dg_s (pc' := 117) [.int (x4 + x10), .ref (x6 + 1)] rfl (fun _ => rfl) rfl ?_
        refine dg_s (pc' := 118) [.int (m.1 (x6 + 1) (Int32.toNatClampNeg (x4 + x10)))] rfl (fun _ => rfl) rfl ?_
        refine dg_L (pc' := 120) [(11, .int (m.1 (x6 + 1) (Int32.toNatClampNeg (x4 + x10)))), (0, .ref x0), (1, .int x1), (4, .int x4), (5, .int x5), (6, .ref x6), (8, .long x8), (10, .int x10)] [] rfl (fun _ => rfl) rfl ?_
        refine dg_s (pc' := 121) [.ref x0] rfl (fun _ => rfl) rfl ?_
        refine dg_s (pc' := 124) [.ref (x0 + 14)] rfl (fun _ => rfl) rfl ?_
        refine dg_s (pc' := 126) [.int (m.1 (x6 + 1) (Int32.toNatClampNeg (x4 + x10))), .ref (x0 + 14)] rfl (fun _ => rfl) rfl ?_
        refine dg_s (pc' := 129) [.int (d_X8_isCube (x0 + 14) (m.1 (x6 + 1) (Int32.toNatClampNeg (x4 + x10))) m)] rfl (fun _ => rfl) rfl ?_
        refine dw_if (fun t => Φ (Option.bind t (dc_bk (d_X9_judge_l83s x0 x1 x4 x5 x6 m)))) (¬ (Int32.toInt (d_X8_isCube (x0 + 14) (m.1 (x6 + 1) (Int32.toNatClampNeg (x4 + x10))) m)) = 0) [] 138 132 rfl (fun _ => rfl) (fun c2 => ?_) (fun c2 => ?_)
        · refine dw_g rfl ?_
          refine dg_s (pc' := 140) [.long x8] rfl (fun _ => rfl) rfl ?_
          refine dg_s (pc' := 142) [.int (m.1 (x6 + 1) (Int32.toNatClampNeg (x4 + x10))), .long x8] rfl (fun _ => rfl) rfl ?_
          refine dg_s (pc' := 143) [.ref x0, .int (m.1 (x6 + 1) (Int32.toNatClampNeg (x4 + x10))), .long x8] rfl (fun _ => rfl) rfl ?_
          refine dg_s (pc' := 146) [.ref (m.2.2.1 x0 7), .int (m.1 (x6 + 1) (Int32.toNatClampNeg (x4 + x10))), .long x8] rfl (fun _ => rfl) rfl ?_
          refine dg_s (pc' := 149) [.int (m.1 (m.2.2.1 x0 7) 0), .int (m.1 (x6 + 1) (Int32.toNatClampNeg (x4 + x10))), .long x8] rfl (fun _ => rfl) rfl ?_
          refine dw_b (fun t => Φ (Option.bind t (dc_bk (d_X9_judge_l83s x0 x1 x4 x5 x6 m)))) (pc' := 152) (fun q1 => [.long q1, .long x8]) (fun q1 => m) rfl (fun _ => rfl) (fun q1 => ?_)
          refine dw_g rfl ?_
          refine dg_s (pc' := 153) [.long (x8 ||| q1)] rfl (fun _ => rfl) rfl ?_
          refine dg_L (pc' := 155) [(8, .long (x8 ||| q1)), (11, .int (m.1 (x6 + 1) (Int32.toNatClampNeg (x4 + x10)))), (0, .ref x0), (1, .int x1), (4, .int x4), (5, .int x5), (6, .ref x6), (10, .int x10)] [] rfl (fun _ => rfl) rfl ?_
          refine dg_L (pc' := 158) [(10, .int (x10 + (1 : Int32))), (8, .long (x8 ||| q1)), (11, .int (m.1 (x6 + 1) (Int32.toNatClampNeg (x4 + x10)))), (0, .ref x0), (1, .int x1), (4, .int x4), (5, .int x5), (6, .ref x6)] [] rfl (fun _ => rfl) rfl ?_
          refine dw_s (pc' := 83) [] rfl (fun _ => rfl) ?_
          exact dw_j rfl (fun lv1 hv => ih (x8 ||| q1) (x10 + (1 : Int32)) lv1 (hv.1 _ rfl) (hv.2.1 _ rfl) (hv.2.2.1 _ rfl) (hv.2.2.2.1 _ rfl) (hv.2.2.2.2.1 _ rfl) (hv.2.2.2.2.2.1 _ rfl) (hv.2.2.2.2.2.2.1 _ rfl))
        · refine dw_g rfl ?_
          refine dg_s (pc' := 134) [.int (-20 : Int32)] rfl (fun _ => rfl) rfl ?_
          refine dg_s (pc' := 136) [.int x10, .int (-20 : Int32)] rfl (fun _ => rfl) rfl ?_
          refine dg_s (pc' := 137) [.int ((-20 : Int32) - x10)] rfl (fun _ => rfl) rfl ?_
          exact dw_r (some (.inl (some (.int ((-20 : Int32) - x10)), m))) rfl (fun _ => rfl) (kR _ _)
      · refine dw_g rfl ?_
        refine dg_s (pc' := 106) [.int (-12 : Int32)] rfl (fun _ => rfl) rfl ?_
        exact dw_r (some (.inl (some (.int (-12 : Int32)), m))) rfl (fun _ => rfl) (kR _ _)
noncomputable def d_X9_judge (x0 : Nat) (x1 : Int32) (x2 : Int32) (x3 : Int32) (x4 : Int32) (x5 : Int32) (m : dc_M) : Option (Int32 × dc_M) :=
  (if (Int32.toInt (d_X3_isMade (m.2.2.1 x0 7) x1 m)) = 0 then some (((-1 : Int32), m)) else (if (Int32.toInt (d_X9_isSheet x2 m)) = 0 then some (((-1 : Int32), m)) else (if (Int32.toInt (d_X9_isLane x3 m)) = 0 then some (((-1 : Int32), m)) else (if (Int32.toInt x5) < 0 then some (((-1 : Int32), m)) else (if (Int32.toInt x5) ≤ 30 then ((d_X9_canBeMade x0 x1 m).bind (fun q1 => (if ¬ (Int32.toInt q1.1) = 0 then (if (Int32.toInt (d_X6_faultAs (q1.2.2.2.1 (x0 + 39) (Int32.toNatClampNeg x2)) x3 q1.2)) = 0 then (d_X9_judge_l83 x0 x1 x4 x5 (q1.2.2.2.1 (x0 + 39) (Int32.toNatClampNeg x2)) (0 : Int64) (0 : Int32) q1.2) else some ((((-10 : Int32) - (d_X6_faultAs (q1.2.2.2.1 (x0 + 39) (Int32.toNatClampNeg x2)) x3 q1.2)), q1.2))) else some (((-2 : Int32), q1.2))))) else some (((-1 : Int32), m)))))))
set_option maxHeartbeats 8000000 in
theorem k_X9_judge {u : Nat} {N : Nat} {Φ : (Option (Int32 × dc_M)) → Option Value → dc_M → Prop} (x0 : Nat) (x1 : Int32) (x2 : Int32) (x3 : Int32) (x4 : Int32) (x5 : Int32) (m : dc_M) (kR : ∀ (v : Int32) (m : dc_M), Φ (some ((v, m))) (some (.int v)) m)  {lv : ab_L} (f0 : ab_lk lv 0 = some (.ref x0)) (f1 : ab_lk lv 1 = some (.int x1)) (f2 : ab_lk lv 2 = some (.int x2)) (f3 : ab_lk lv 3 = some (.int x3)) (f4 : ab_lk lv 4 = some (.int x4)) (f5 : ab_lk lv 5 = some (.int x5)) : dc_pv u N ab_M_X9_judge 0 lv [] m (Φ (d_X9_judge x0 x1 x2 x3 x4 x5 m)) := by
  refine dc_pv.mono (dc_ok (C := C_X9_judge) (S := S_X9_judge) CO_X9_judge 400 0 [(0, .ref x0), (1, .int x1), (2, .int x2), (3, .int x3), (4, .int x4), (5, .int x5)] lv [] m (dc_sub_cons f0 (dc_sub_cons f1 (dc_sub_cons f2 (dc_sub_cons f3 (dc_sub_cons f4 (dc_sub_cons f5 (dc_sub_nil))))))) ?_) (Nat.le_succ N)
  unfold d_X9_judge
  refine dg_s (pc' := 1) [.ref x0] rfl (fun _ => rfl) rfl ?_
  refine dg_s (pc' := 4) [.ref (m.2.2.1 x0 7)] rfl (fun _ => rfl) rfl ?_
  refine dg_s (pc' := 5) [.int x1, .ref (m.2.2.1 x0 7)] rfl (fun _ => rfl) rfl ?_
  refine dg_s (pc' := 8) [.int (d_X3_isMade (m.2.2.1 x0 7) x1 m)] rfl (fun _ => rfl) rfl ?_
  refine dw_if (fun t => Φ t) ((Int32.toInt (d_X3_isMade (m.2.2.1 x0 7) x1 m)) = 0) [] 37 11 rfl (fun _ => rfl) (fun c0 => ?_) (fun c0 => ?_)
  · refine dw_g rfl ?_
    refine dg_s (pc' := 38) [.int (-1 : Int32)] rfl (fun _ => rfl) rfl ?_
    exact dw_r (some (.inl (some (.int (-1 : Int32)), m))) rfl (fun _ => rfl) (kR _ _)
  · refine dw_g rfl ?_
    refine dg_s (pc' := 12) [.int x2] rfl (fun _ => rfl) rfl ?_
    refine dg_s (pc' := 15) [.int (d_X9_isSheet x2 m)] rfl (fun _ => rfl) rfl ?_
    refine dw_if (fun t => Φ t) ((Int32.toInt (d_X9_isSheet x2 m)) = 0) [] 37 18 rfl (fun _ => rfl) (fun c1 => ?_) (fun c1 => ?_)
    · refine dw_g rfl ?_
      refine dg_s (pc' := 38) [.int (-1 : Int32)] rfl (fun _ => rfl) rfl ?_
      exact dw_r (some (.inl (some (.int (-1 : Int32)), m))) rfl (fun _ => rfl) (kR _ _)
    · refine dw_g rfl ?_
      refine dg_s (pc' := 19) [.int x3] rfl (fun _ => rfl) rfl ?_
      refine dg_s (pc' := 22) [.int (d_X9_isLane x3 m)] rfl (fun _ => rfl) rfl ?_
      refine dw_if (fun t => Φ t) ((Int32.toInt (d_X9_isLane x3 m)) = 0) [] 37 25 rfl (fun _ => rfl) (fun c2 => ?_) (fun c2 => ?_)
      · refine dw_g rfl ?_
        refine dg_s (pc' := 38) [.int (-1 : Int32)] rfl (fun _ => rfl) rfl ?_
        exact dw_r (some (.inl (some (.int (-1 : Int32)), m))) rfl (fun _ => rfl) (kR _ _)
      · refine dw_g rfl ?_
        refine dg_s (pc' := 27) [.int x5] rfl (fun _ => rfl) rfl ?_
        refine dw_if (fun t => Φ t) ((Int32.toInt x5) < 0) [] 37 30 rfl (fun _ => rfl) (fun c3 => ?_) (fun c3 => ?_)
        · refine dw_g rfl ?_
          refine dg_s (pc' := 38) [.int (-1 : Int32)] rfl (fun _ => rfl) rfl ?_
          exact dw_r (some (.inl (some (.int (-1 : Int32)), m))) rfl (fun _ => rfl) (kR _ _)
        · refine dw_g rfl ?_
          refine dg_s (pc' := 32) [.int x5] rfl (fun _ => rfl) rfl ?_
          refine dg_s (pc' := 34) [.int (30 : Int32), .int x5] rfl (fun _ => rfl) rfl ?_
          refine dw_if (fun t => Φ t) ((Int32.toInt x5) ≤ 30) [] 39 37 rfl (fun _ => rfl) (fun c4 => ?_) (fun c4 => ?_)
          · refine dw_g rfl ?_
            refine dg_s (pc' := 40) [.ref x0] rfl (fun _ => rfl) rfl ?_
            refine dg_s (pc' := 41) [.int x1, .ref x0] rfl (fun _ => rfl) rfl ?_
            refine dw_b (fun t => Φ t) (pc' := 44) (fun q1 => [.int q1.1]) (fun q1 => q1.2) rfl (fun _ => rfl) (fun q1 => ?_)
            refine dw_g rfl ?_
            refine dw_if (fun t => Φ t) (¬ (Int32.toInt q1.1) = 0) [] 50 47 rfl (fun _ => rfl) (fun c5 => ?_) (fun c5 => ?_)
            · refine dw_g rfl ?_
              refine dg_s (pc' := 51) [.ref x0] rfl (fun _ => rfl) rfl ?_
              refine dg_s (pc' := 54) [.ref (x0 + 39)] rfl (fun _ => rfl) rfl ?_
              refine dg_s (pc' := 55) [.int x2, .ref (x0 + 39)] rfl (fun _ => rfl) rfl ?_
              refine dg_s (pc' := 56) [.ref (q1.2.2.2.1 (x0 + 39) (Int32.toNatClampNeg x2))] rfl (fun _ => rfl) rfl ?_
              refine dg_L (pc' := 58) [(6, .ref (q1.2.2.2.1 (x0 + 39) (Int32.toNatClampNeg x2))), (0, .ref x0), (1, .int x1), (2, .int x2), (3, .int x3), (4, .int x4), (5, .int x5)] [] rfl (fun _ => rfl) rfl ?_
              refine dg_s (pc' := 60) [.ref (q1.2.2.2.1 (x0 + 39) (Int32.toNatClampNeg x2))] rfl (fun _ => rfl) rfl ?_
              refine dg_s (pc' := 61) [.int x3, .ref (q1.2.2.2.1 (x0 + 39) (Int32.toNatClampNeg x2))] rfl (fun _ => rfl) rfl ?_
              refine dg_s (pc' := 64) [.int (d_X6_faultAs (q1.2.2.2.1 (x0 + 39) (Int32.toNatClampNeg x2)) x3 q1.2)] rfl (fun _ => rfl) rfl ?_
              refine dg_L (pc' := 66) [(7, .int (d_X6_faultAs (q1.2.2.2.1 (x0 + 39) (Int32.toNatClampNeg x2)) x3 q1.2)), (6, .ref (q1.2.2.2.1 (x0 + 39) (Int32.toNatClampNeg x2))), (0, .ref x0), (1, .int x1), (2, .int x2), (3, .int x3), (4, .int x4), (5, .int x5)] [] rfl (fun _ => rfl) rfl ?_
              refine dg_s (pc' := 68) [.int (d_X6_faultAs (q1.2.2.2.1 (x0 + 39) (Int32.toNatClampNeg x2)) x3 q1.2)] rfl (fun _ => rfl) rfl ?_
              refine dw_if (fun t => Φ t) ((Int32.toInt (d_X6_faultAs (q1.2.2.2.1 (x0 + 39) (Int32.toNatClampNeg x2)) x3 q1.2)) = 0) [] 77 71 rfl (fun _ => rfl) (fun c6 => ?_) (fun c6 => ?_)
              · refine dw_g rfl ?_
                refine dg_s (pc' := 78) [.long (0 : Int64)] rfl (fun _ => rfl) rfl ?_
                refine dg_L (pc' := 80) [(8, .long (0 : Int64)), (7, .int (d_X6_faultAs (q1.2.2.2.1 (x0 + 39) (Int32.toNatClampNeg x2)) x3 q1.2)), (6, .ref (q1.2.2.2.1 (x0 + 39) (Int32.toNatClampNeg x2))), (0, .ref x0), (1, .int x1), (2, .int x2), (3, .int x3), (4, .int x4), (5, .int x5)] [] rfl (fun _ => rfl) rfl ?_
                refine dg_s (pc' := 81) [.int (0 : Int32)] rfl (fun _ => rfl) rfl ?_
                refine dw_L (pc' := 83) [(10, .int (0 : Int32)), (8, .long (0 : Int64)), (7, .int (d_X6_faultAs (q1.2.2.2.1 (x0 + 39) (Int32.toNatClampNeg x2)) x3 q1.2)), (6, .ref (q1.2.2.2.1 (x0 + 39) (Int32.toNatClampNeg x2))), (0, .ref x0), (1, .int x1), (2, .int x2), (3, .int x3), (4, .int x4), (5, .int x5)] [] rfl (fun _ => rfl) ?_
                exact dw_j rfl (fun lv1 hv => k_X9_judge_l83 (Φ := (fun t => Φ t)) x0 x1 x4 x5 (q1.2.2.2.1 (x0 + 39) (Int32.toNatClampNeg x2)) q1.2 (fun _a _b => kR _a _b) N  (0 : Int64) (0 : Int32) lv1 (hv.1 _ rfl) (hv.2.1 _ rfl) (hv.2.2.1 _ rfl) (hv.2.2.2.1 _ rfl) (hv.2.2.2.2.1 _ rfl) (hv.2.2.2.2.2.1 _ rfl) (hv.2.2.2.2.2.2.1 _ rfl))
              · refine dw_g rfl ?_
                refine dg_s (pc' := 73) [.int (-10 : Int32)] rfl (fun _ => rfl) rfl ?_
                refine dg_s (pc' := 75) [.int (d_X6_faultAs (q1.2.2.2.1 (x0 + 39) (Int32.toNatClampNeg x2)) x3 q1.2), .int (-10 : Int32)] rfl (fun _ => rfl) rfl ?_
                refine dg_s (pc' := 76) [.int ((-10 : Int32) - (d_X6_faultAs (q1.2.2.2.1 (x0 + 39) (Int32.toNatClampNeg x2)) x3 q1.2))] rfl (fun _ => rfl) rfl ?_
                exact dw_r (some (.inl (some (.int ((-10 : Int32) - (d_X6_faultAs (q1.2.2.2.1 (x0 + 39) (Int32.toNatClampNeg x2)) x3 q1.2))), q1.2))) rfl (fun _ => rfl) (kR _ _)
            · refine dw_g rfl ?_
              refine dg_s (pc' := 49) [.int (-2 : Int32)] rfl (fun _ => rfl) rfl ?_
              exact dw_r (some (.inl (some (.int (-2 : Int32)), q1.2))) rfl (fun _ => rfl) (kR _ _)
          · refine dw_g rfl ?_
            refine dg_s (pc' := 38) [.int (-1 : Int32)] rfl (fun _ => rfl) rfl ?_
            exact dw_r (some (.inl (some (.int (-1 : Int32)), m))) rfl (fun _ => rfl) (kR _ _)
noncomputable def H_X9_judge : dc_H := fun As m k => match As with
  | [.ref x0, .int x1, .int x2, .int x3, .int x4, .int x5] => (d_X9_judge x0 x1 x2 x3 x4 x5 m).bind (fun q => k (some (.int q.1)) q.2)
  | _ => dc_kz
theorem H_X9_judge_ok {u : Nat} : dc_cok u 116 H_X9_judge := fun M' hG N As m k P hz hP => by
  obtain rfl : ab_M_X9_judge = M' := Option.some.inj hG
  unfold H_X9_judge at hP
  split at hP
  · rename_i x0 x1 x2 x3 x4 x5
    exact dc_pv.imp (k_X9_judge (Φ := fun (t : Option (Int32 × dc_M)) r m' => P (t.bind (fun q => k (some (.int q.1)) q.2)) → P (k r m')) x0 x1 x2 x3 x4 x5 m (fun _ _ h => h) rfl rfl rfl rfl rfl rfl) (fun r m' h => h hP)
  · exact absurd hP hz
def C_X10_cubeAll : List (Nat × dc_H) := []
theorem CO_X10_cubeAll {u : Nat} : dc_CO u C_X10_cubeAll := dc_CO_nil
def S_X10_cubeAll : List (Nat × List Nat) := [(4, [0, 1, 2])]
noncomputable def d_X10_cubeAll_l4b (x0 : Nat) (x1 : Int32) (x2 : Int32) (m : dc_M) : Option ((Int32 × Int32) ⊕ Int32) :=
  (if (Int32.toInt (m.1 x0 0)) ≤ (Int32.toInt x2) then some (Sum.inr (x1)) else some (Sum.inl ((x1 * (3 : Int32)), (x2 + (1 : Int32)))))
noncomputable def d_X10_cubeAll_l4s (x0 : Nat) (m : dc_M) : (Int32 × Int32) → Option ((Int32 × Int32) ⊕ Int32) := fun s => d_X10_cubeAll_l4b x0 s.1 s.2 m
noncomputable def d_X10_cubeAll_l4 (x0 : Nat) (x1 : Int32) (x2 : Int32) (m : dc_M) : Option Int32 := dc_lp (d_X10_cubeAll_l4s x0 m) (x1, x2)
set_option maxHeartbeats 8000000 in
theorem k_X10_cubeAll_l4 {u : Nat} {Φ : (Option Int32) → Option Value → dc_M → Prop} (x0 : Nat) (m : dc_M) (kR : ∀ (v : Int32), Φ (some (v)) (some (.int v)) m) : ∀ (N : Nat), ∀ (x1 : Int32) (x2 : Int32) (lv : ab_L), ab_lk lv 0 = some (.ref x0) → ab_lk lv 1 = some (.int x1) → ab_lk lv 2 = some (.int x2) → dc_pv u N ab_M_X10_cubeAll 4 lv [] m (Φ (d_X10_cubeAll_l4 x0 x1 x2 m)) := by
  intro N
  induction N with
  | zero => intros; exact dc_pv_zero
  | succ N ih =>
    intro x1 x2 lv f0 f1 f2
    refine dc_ok (C := C_X10_cubeAll) (S := S_X10_cubeAll) CO_X10_cubeAll 400 4 [(0, .ref x0), (1, .int x1), (2, .int x2)] lv [] m (dc_sub_cons f0 (dc_sub_cons f1 (dc_sub_cons f2 (dc_sub_nil)))) ?_
    unfold d_X10_cubeAll_l4
    rw [dc_lp_eq]
    show (fun t x => dc_lf u N ab_M_X10_cubeAll (Φ (Option.bind t (dc_bk (d_X10_cubeAll_l4s x0 m)))) x) (d_X10_cubeAll_l4b x0 x1 x2 m) _
    dsimp only
    unfold d_X10_cubeAll_l4b
    refine dg_s (pc' := 5) [.int x2] rfl (fun _ => rfl) rfl ?_
    refine dg_s (pc' := 6) [.ref x0, .int x2] rfl (fun _ => rfl) rfl ?_
    refine dg_s (pc' := 9) [.int (m.1 x0 0), .int x2] rfl (fun _ => rfl) rfl ?_
    refine dw_if (fun t => Φ (Option.bind t (dc_bk (d_X10_cubeAll_l4s x0 m)))) ((Int32.toInt (m.1 x0 0)) ≤ (Int32.toInt x2)) [] 22 12 rfl (fun _ => rfl) (fun c0 => ?_) (fun c0 => ?_)
    · refine dw_g rfl ?_
      refine dg_s (pc' := 23) [.int x1] rfl (fun _ => rfl) rfl ?_
      exact dw_r (some (.inl (some (.int x1), m))) rfl (fun _ => rfl) (kR _)
    · refine dw_g rfl ?_
      refine dg_s (pc' := 13) [.int x1] rfl (fun _ => rfl) rfl ?_
      refine dg_s (pc' := 14) [.int (3 : Int32), .int x1] rfl (fun _ => rfl) rfl ?_
      refine dg_s (pc' := 15) [.int (x1 * (3 : Int32))] rfl (fun _ => rfl) rfl ?_
      refine dg_L (pc' := 16) [(1, .int (x1 * (3 : Int32))), (0, .ref x0), (2, .int x2)] [] rfl (fun _ => rfl) rfl ?_
      refine dg_L (pc' := 19) [(2, .int (x2 + (1 : Int32))), (1, .int (x1 * (3 : Int32))), (0, .ref x0)] [] rfl (fun _ => rfl) rfl ?_
      refine dw_s (pc' := 4) [] rfl (fun _ => rfl) ?_
      exact dw_j rfl (fun lv1 hv => ih (x1 * (3 : Int32)) (x2 + (1 : Int32)) lv1 (hv.1 _ rfl) (hv.2.1 _ rfl) (hv.2.2.1 _ rfl))
noncomputable def d_X10_cubeAll (x0 : Nat) (m : dc_M) : Option Int32 :=
  (d_X10_cubeAll_l4 x0 (1 : Int32) (0 : Int32) m)
set_option maxHeartbeats 8000000 in
theorem k_X10_cubeAll {u : Nat} {N : Nat} {Φ : (Option Int32) → Option Value → dc_M → Prop} (x0 : Nat) (m : dc_M) (kR : ∀ (v : Int32), Φ (some (v)) (some (.int v)) m)  {lv : ab_L} (f0 : ab_lk lv 0 = some (.ref x0)) : dc_pv u N ab_M_X10_cubeAll 0 lv [] m (Φ (d_X10_cubeAll x0 m)) := by
  refine dc_pv.mono (dc_ok (C := C_X10_cubeAll) (S := S_X10_cubeAll) CO_X10_cubeAll 400 0 [(0, .ref x0)] lv [] m (dc_sub_cons f0 (dc_sub_nil)) ?_) (Nat.le_succ N)
  unfold d_X10_cubeAll
  refine dg_s (pc' := 1) [.int (1 : Int32)] rfl (fun _ => rfl) rfl ?_
  refine dg_L (pc' := 2) [(1, .int (1 : Int32)), (0, .ref x0)] [] rfl (fun _ => rfl) rfl ?_
  refine dg_s (pc' := 3) [.int (0 : Int32)] rfl (fun _ => rfl) rfl ?_
  refine dw_L (pc' := 4) [(2, .int (0 : Int32)), (1, .int (1 : Int32)), (0, .ref x0)] [] rfl (fun _ => rfl) ?_
  exact dw_j rfl (fun lv1 hv => k_X10_cubeAll_l4 (Φ := (fun t => Φ t)) x0 m (fun _a  => kR _a) N  (1 : Int32) (0 : Int32) lv1 (hv.1 _ rfl) (hv.2.1 _ rfl) (hv.2.2.1 _ rfl))
noncomputable def H_X10_cubeAll : dc_H := fun As m k => match As with
  | [.ref x0] => (d_X10_cubeAll x0 m).bind (fun q => k (some (.int q)) m)
  | _ => dc_kz
theorem H_X10_cubeAll_ok {u : Nat} : dc_cok u 190 H_X10_cubeAll := fun M' hG N As m k P hz hP => by
  obtain rfl : ab_M_X10_cubeAll = M' := Option.some.inj hG
  unfold H_X10_cubeAll at hP
  split at hP
  · rename_i x0
    exact dc_pv.imp (k_X10_cubeAll (Φ := fun (t : Option Int32) r m' => P (t.bind (fun q => k (some (.int q)) m)) → P (k r m')) x0 m (fun _  h => h) rfl) (fun r m' h => h hP)
  · exact absurd hP hz
def C_X10_isOwn : List (Nat × dc_H) := [(162, H_X10_isWire)]
theorem CO_X10_isOwn {u : Nat} : dc_CO u C_X10_isOwn := dc_CO_cons H_X10_isWire_ok (dc_CO_nil)
def S_X10_isOwn : List (Nat × List Nat) := []
def d_X10_isOwn (x0 : Nat) (x1 : Int32) (m : dc_M) : Int32 :=
  (if (Int32.toInt (d_X10_isWire x0 x1 m)) = 0 then (0 : Int32) else (if (Int32.toInt (m.1 (x0 + 2) (Int32.toNatClampNeg x1))) ≤ 0 then (0 : Int32) else (1 : Int32)))
set_option maxHeartbeats 8000000 in
theorem k_X10_isOwn {u : Nat} {N : Nat} {Φ : Int32 → Option Value → dc_M → Prop} (x0 : Nat) (x1 : Int32) (m : dc_M) (kR : ∀ (v : Int32), Φ (v) (some (.int v)) m)  {lv : ab_L} (f0 : ab_lk lv 0 = some (.ref x0)) (f1 : ab_lk lv 1 = some (.int x1)) : dc_pv u N ab_M_X10_isOwn 0 lv [] m (Φ (d_X10_isOwn x0 x1 m)) := by
  refine dc_pv.mono (dc_ok (C := C_X10_isOwn) (S := S_X10_isOwn) CO_X10_isOwn 400 0 [(0, .ref x0), (1, .int x1)] lv [] m (dc_sub_cons f0 (dc_sub_cons f1 (dc_sub_nil))) ?_) (Nat.le_succ N)
  unfold d_X10_isOwn
  refine dg_s (pc' := 1) [.ref x0] rfl (fun _ => rfl) rfl ?_
  refine dg_s (pc' := 2) [.int x1, .ref x0] rfl (fun _ => rfl) rfl ?_
  refine dg_s (pc' := 5) [.int (d_X10_isWire x0 x1 m)] rfl (fun _ => rfl) rfl ?_
  refine dw_if (fun t => Φ t) ((Int32.toInt (d_X10_isWire x0 x1 m)) = 0) [] 21 8 rfl (fun _ => rfl) (fun c0 => ?_) (fun c0 => ?_)
  · refine dw_g rfl ?_
    refine dg_s (pc' := 22) [.int (0 : Int32)] rfl (fun _ => rfl) rfl ?_
    exact dw_r (some (.inl (some (.int (0 : Int32)), m))) rfl (fun _ => rfl) (kR _)
  · refine dw_g rfl ?_
    refine dg_s (pc' := 9) [.ref x0] rfl (fun _ => rfl) rfl ?_
    refine dg_s (pc' := 12) [.ref (x0 + 2)] rfl (fun _ => rfl) rfl ?_
    refine dg_s (pc' := 13) [.int x1, .ref (x0 + 2)] rfl (fun _ => rfl) rfl ?_
    refine dg_s (pc' := 14) [.int (m.1 (x0 + 2) (Int32.toNatClampNeg x1))] rfl (fun _ => rfl) rfl ?_
    refine dw_if (fun t => Φ t) ((Int32.toInt (m.1 (x0 + 2) (Int32.toNatClampNeg x1))) ≤ 0) [] 21 17 rfl (fun _ => rfl) (fun c1 => ?_) (fun c1 => ?_)
    · refine dw_g rfl ?_
      refine dg_s (pc' := 22) [.int (0 : Int32)] rfl (fun _ => rfl) rfl ?_
      exact dw_r (some (.inl (some (.int (0 : Int32)), m))) rfl (fun _ => rfl) (kR _)
    · refine dw_g rfl ?_
      refine dg_s (pc' := 18) [.int (1 : Int32)] rfl (fun _ => rfl) rfl ?_
      refine dg_s (pc' := 22) [.int (1 : Int32)] rfl (fun _ => rfl) rfl ?_
      exact dw_r (some (.inl (some (.int (1 : Int32)), m))) rfl (fun _ => rfl) (kR _)
def H_X10_isOwn : dc_H := fun As m k => match As with
  | [.ref x0, .int x1] => k (some (.int (d_X10_isOwn x0 x1 m))) m
  | _ => dc_kz
theorem H_X10_isOwn_ok {u : Nat} : dc_cok u 199 H_X10_isOwn := fun M' hG N As m k P hz hP => by
  obtain rfl : ab_M_X10_isOwn = M' := Option.some.inj hG
  unfold H_X10_isOwn at hP
  split at hP
  · rename_i x0 x1
    exact dc_pv.imp (k_X10_isOwn (Φ := fun (t : Int32) r m' => P (k (some (.int t)) m) → P (k r m')) x0 x1 m (fun _  h => h) rfl rfl) (fun r m' h => h hP)
  · exact absurd hP hz
def C_X10_levelsOf : List (Nat × dc_H) := []
theorem CO_X10_levelsOf {u : Nat} : dc_CO u C_X10_levelsOf := dc_CO_nil
def S_X10_levelsOf : List (Nat × List Nat) := [(5, [0, 1, 2, 4]), (25, [0, 1, 2, 4, 5, 6, 7]), (82, [0, 1, 2, 4, 6])]
noncomputable def d_X10_levelsOf_b82 (x0 : Nat) (x1 : Int32) (x2 : Int64) (x4 : Int32) (x6 : Int32) (m : dc_M) : Option ((Int64 × Int32) ⊕ Int64) :=
  (if (Int32.toInt x6) = 0 then some (Sum.inl ((x2 ||| (0 : Int64)), (x4 + (1 : Int32)))) else some (Sum.inl ((x2 ||| ((1 : Int64) <<< (Int32.toInt64 x4 &&& 63))), (x4 + (1 : Int32)))))
set_option maxHeartbeats 8000000 in
theorem k_X10_levelsOf_b82 {u : Nat} {N : Nat} {Φ : (Option ((Int64 × Int32) ⊕ Int64)) → Option Value → dc_M → Prop} (x0 : Nat) (x1 : Int32) (x2 : Int64) (x4 : Int32) (x6 : Int32) (m : dc_M) (kR : ∀ (v : Int64), Φ (some (Sum.inr (v))) (some (.long v)) m) (k5 : ∀ (x2 : Int64) (x4 : Int32) (lv : ab_L), ab_lk lv 0 = some (.ref x0) → ab_lk lv 1 = some (.int x1) → ab_lk lv 2 = some (.long x2) → ab_lk lv 4 = some (.int x4) →  dc_pv u N ab_M_X10_levelsOf 5 lv [] m (Φ (some (Sum.inl (x2, x4))))) {lv : ab_L} (f0 : ab_lk lv 0 = some (.ref x0)) (f1 : ab_lk lv 1 = some (.int x1)) (f2 : ab_lk lv 2 = some (.long x2)) (f4 : ab_lk lv 4 = some (.int x4)) (f6 : ab_lk lv 6 = some (.int x6)) : dc_pv u N ab_M_X10_levelsOf 82 lv [] m (Φ (d_X10_levelsOf_b82 x0 x1 x2 x4 x6 m)) := by
  refine dc_pv.mono (dc_ok (C := C_X10_levelsOf) (S := S_X10_levelsOf) CO_X10_levelsOf 400 82 [(0, .ref x0), (1, .int x1), (2, .long x2), (4, .int x4), (6, .int x6)] lv [] m (dc_sub_cons f0 (dc_sub_cons f1 (dc_sub_cons f2 (dc_sub_cons f4 (dc_sub_cons f6 (dc_sub_nil)))))) ?_) (Nat.le_succ N)
  unfold d_X10_levelsOf_b82
  refine dg_s (pc' := 83) [.long x2] rfl (fun _ => rfl) rfl ?_
  refine dg_s (pc' := 85) [.int x6, .long x2] rfl (fun _ => rfl) rfl ?_
  refine dw_if (fun t => Φ t) ((Int32.toInt x6) = 0) [.long x2] 95 88 rfl (fun _ => rfl) (fun c0 => ?_) (fun c0 => ?_)
  · refine dw_g rfl ?_
    refine dg_s (pc' := 96) [.long (0 : Int64), .long x2] rfl (fun _ => rfl) rfl ?_
    refine dg_s (pc' := 97) [.long (x2 ||| (0 : Int64))] rfl (fun _ => rfl) rfl ?_
    refine dg_L (pc' := 98) [(2, .long (x2 ||| (0 : Int64))), (0, .ref x0), (1, .int x1), (4, .int x4), (6, .int x6)] [] rfl (fun _ => rfl) rfl ?_
    refine dg_L (pc' := 101) [(4, .int (x4 + (1 : Int32))), (2, .long (x2 ||| (0 : Int64))), (0, .ref x0), (1, .int x1), (6, .int x6)] [] rfl (fun _ => rfl) rfl ?_
    refine dw_s (pc' := 5) [] rfl (fun _ => rfl) ?_
    exact dw_j rfl (fun lv1 hv => k5 (x2 ||| (0 : Int64)) (x4 + (1 : Int32)) lv1 (hv.1 _ rfl) (hv.2.1 _ rfl) (hv.2.2.1 _ rfl) (hv.2.2.2.1 _ rfl))
  · refine dw_g rfl ?_
    refine dg_s (pc' := 89) [.long (1 : Int64), .long x2] rfl (fun _ => rfl) rfl ?_
    refine dg_s (pc' := 91) [.int x4, .long (1 : Int64), .long x2] rfl (fun _ => rfl) rfl ?_
    refine dg_s (pc' := 92) [.long ((1 : Int64) <<< (Int32.toInt64 x4 &&& 63)), .long x2] rfl (fun _ => rfl) rfl ?_
    refine dg_s (pc' := 96) [.long ((1 : Int64) <<< (Int32.toInt64 x4 &&& 63)), .long x2] rfl (fun _ => rfl) rfl ?_
    refine dg_s (pc' := 97) [.long (x2 ||| ((1 : Int64) <<< (Int32.toInt64 x4 &&& 63)))] rfl (fun _ => rfl) rfl ?_
    refine dg_L (pc' := 98) [(2, .long (x2 ||| ((1 : Int64) <<< (Int32.toInt64 x4 &&& 63)))), (0, .ref x0), (1, .int x1), (4, .int x4), (6, .int x6)] [] rfl (fun _ => rfl) rfl ?_
    refine dg_L (pc' := 101) [(4, .int (x4 + (1 : Int32))), (2, .long (x2 ||| ((1 : Int64) <<< (Int32.toInt64 x4 &&& 63)))), (0, .ref x0), (1, .int x1), (6, .int x6)] [] rfl (fun _ => rfl) rfl ?_
    refine dw_s (pc' := 5) [] rfl (fun _ => rfl) ?_
    exact dw_j rfl (fun lv1 hv => k5 (x2 ||| ((1 : Int64) <<< (Int32.toInt64 x4 &&& 63))) (x4 + (1 : Int32)) lv1 (hv.1 _ rfl) (hv.2.1 _ rfl) (hv.2.2.1 _ rfl) (hv.2.2.2.1 _ rfl))
noncomputable def d_X10_levelsOf_l25b (x0 : Nat) (x1 : Int32) (x2 : Int64) (x4 : Int32) (x5 : Int32) (x6 : Int32) (x7 : Int32) (m : dc_M) : Option ((Int32 × Int32 × Int32) ⊕ ((Int64 × Int32) ⊕ Int64)) :=
  (if (Int32.toInt (m.1 x0 0)) ≤ (Int32.toInt x7) then ((d_X10_levelsOf_b82 x0 x1 x2 x4 x6 m).map (fun z => Sum.inr (z))) else (if (Int32.toInt x6) = 0 then some (Sum.inl ((x5 / (3 : Int32)), (0 : Int32), (x7 + (1 : Int32)))) else (if (Int32.toInt (x5 - x5 / (3 : Int32) * (3 : Int32))) = 2 then some (Sum.inl ((x5 / (3 : Int32)), (1 : Int32), (x7 + (1 : Int32)))) else (if ¬ (Int32.toInt (x5 - x5 / (3 : Int32) * (3 : Int32))) = (Int32.toInt ((x4 >>> (x7 &&& 31)) &&& (1 : Int32))) then some (Sum.inl ((x5 / (3 : Int32)), (0 : Int32), (x7 + (1 : Int32)))) else some (Sum.inl ((x5 / (3 : Int32)), (1 : Int32), (x7 + (1 : Int32))))))))
noncomputable def d_X10_levelsOf_l25s (x0 : Nat) (x1 : Int32) (x2 : Int64) (x4 : Int32) (m : dc_M) : (Int32 × Int32 × Int32) → Option ((Int32 × Int32 × Int32) ⊕ ((Int64 × Int32) ⊕ Int64)) := fun s => d_X10_levelsOf_l25b x0 x1 x2 x4 s.1 s.2.1 s.2.2 m
noncomputable def d_X10_levelsOf_l25 (x0 : Nat) (x1 : Int32) (x2 : Int64) (x4 : Int32) (x5 : Int32) (x6 : Int32) (x7 : Int32) (m : dc_M) : Option ((Int64 × Int32) ⊕ Int64) := dc_lp (d_X10_levelsOf_l25s x0 x1 x2 x4 m) (x5, x6, x7)
set_option maxHeartbeats 8000000 in
theorem k_X10_levelsOf_l25 {u : Nat} {Φ : (Option ((Int64 × Int32) ⊕ Int64)) → Option Value → dc_M → Prop} (x0 : Nat) (x1 : Int32) (x2 : Int64) (x4 : Int32) (m : dc_M) (kR : ∀ (v : Int64), Φ (some (Sum.inr (v))) (some (.long v)) m) : ∀ (N : Nat), (∀ (x2 : Int64) (x4 : Int32) (lv : ab_L), ab_lk lv 0 = some (.ref x0) → ab_lk lv 1 = some (.int x1) → ab_lk lv 2 = some (.long x2) → ab_lk lv 4 = some (.int x4) →  dc_pv u N ab_M_X10_levelsOf 5 lv [] m (Φ (some (Sum.inl (x2, x4))))) → ∀ (x5 : Int32) (x6 : Int32) (x7 : Int32) (lv : ab_L), ab_lk lv 0 = some (.ref x0) → ab_lk lv 1 = some (.int x1) → ab_lk lv 2 = some (.long x2) → ab_lk lv 4 = some (.int x4) → ab_lk lv 5 = some (.int x5) → ab_lk lv 6 = some (.int x6) → ab_lk lv 7 = some (.int x7) → dc_pv u N ab_M_X10_levelsOf 25 lv [] m (Φ (d_X10_levelsOf_l25 x0 x1 x2 x4 x5 x6 x7 m)) := by
  intro N
  induction N with
  | zero => intros; exact dc_pv_zero
  | succ N ih =>
    intro k5 x5 x6 x7 lv f0 f1 f2 f4 f5 f6 f7
    have k5 := fun a0 a1 a2 a3 a4 a5 a6 => (k5 a0 a1 a2 a3 a4 a5 a6).mono (Nat.le_succ N)
    have ih := ih k5
    refine dc_ok (C := C_X10_levelsOf) (S := S_X10_levelsOf) CO_X10_levelsOf 400 25 [(0, .ref x0), (1, .int x1), (2, .long x2), (4, .int x4), (5, .int x5), (6, .int x6), (7, .int x7)] lv [] m (dc_sub_cons f0 (dc_sub_cons f1 (dc_sub_cons f2 (dc_sub_cons f4 (dc_sub_cons f5 (dc_sub_cons f6 (dc_sub_cons f7 (dc_sub_nil)))))))) ?_
    unfold d_X10_levelsOf_l25
    rw [dc_lp_eq]
    show (fun t x => dc_lf u N ab_M_X10_levelsOf (Φ (Option.bind t (dc_bk (d_X10_levelsOf_l25s x0 x1 x2 x4 m)))) x) (d_X10_levelsOf_l25b x0 x1 x2 x4 x5 x6 x7 m) _
    dsimp only
    unfold d_X10_levelsOf_l25b
    refine dg_s (pc' := 27) [.int x7] rfl (fun _ => rfl) rfl ?_
    refine dg_s (pc' := 28) [.ref x0, .int x7] rfl (fun _ => rfl) rfl ?_
    refine dg_s (pc' := 31) [.int (m.1 x0 0), .int x7] rfl (fun _ => rfl) rfl ?_
    refine dw_if (fun t => Φ (Option.bind t (dc_bk (d_X10_levelsOf_l25s x0 x1 x2 x4 m)))) ((Int32.toInt (m.1 x0 0)) ≤ (Int32.toInt x7)) [] 82 34 rfl (fun _ => rfl) (fun c0 => ?_) (fun c0 => ?_)
    · exact dw_j rfl (fun lv1 hv => k_X10_levelsOf_b82 (Φ := (fun t => Φ (Option.bind (t.map (fun z => Sum.inr (z))) (dc_bk (d_X10_levelsOf_l25s x0 x1 x2 x4 m))))) x0 x1 x2 x4 x6 m (fun _a  => kR _a) k5 (hv.1 _ rfl) (hv.2.1 _ rfl) (hv.2.2.1 _ rfl) (hv.2.2.2.1 _ rfl) (hv.2.2.2.2.1 _ rfl))
    · refine dw_g rfl ?_
      refine dg_s (pc' := 36) [.int x5] rfl (fun _ => rfl) rfl ?_
      refine dg_s (pc' := 37) [.int (3 : Int32), .int x5] rfl (fun _ => rfl) rfl ?_
      refine dg_s (pc' := 38) [.int (x5 - x5 / (3 : Int32) * (3 : Int32))] rfl (fun _ => rfl) rfl ?_
      refine dg_L (pc' := 40) [(8, .int (x5 - x5 / (3 : Int32) * (3 : Int32))), (0, .ref x0), (1, .int x1), (2, .long x2), (4, .int x4), (5, .int x5), (6, .int x6), (7, .int x7)] [] rfl (fun _ => rfl) rfl ?_
      refine dg_s (pc' := 42) [.int x5] rfl (fun _ => rfl) rfl ?_
      refine dg_s (pc' := 43) [.int (3 : Int32), .int x5] rfl (fun _ => rfl) rfl ?_
      refine dg_s (pc' := 44) [.int (x5 / (3 : Int32))] rfl (fun _ => rfl) rfl ?_
      refine dg_L (pc' := 46) [(5, .int (x5 / (3 : Int32))), (8, .int (x5 - x5 / (3 : Int32) * (3 : Int32))), (0, .ref x0), (1, .int x1), (2, .long x2), (4, .int x4), (6, .int x6), (7, .int x7)] [] rfl (fun _ => rfl) rfl ?_
      refine dg_s (pc' := 48) [.int x6] rfl (fun _ => rfl) rfl ?_
      refine dw_if (fun t => Φ (Option.bind t (dc_bk (d_X10_levelsOf_l25s x0 x1 x2 x4 m)))) ((Int32.toInt x6) = 0) [] 73 51 rfl (fun _ => rfl) (fun c1 => ?_) (fun c1 => ?_)
      · refine dw_g rfl ?_
        refine dg_s (pc' := 74) [.int (0 : Int32)] rfl (fun _ => rfl) rfl ?_
        refine dg_L (pc' := 76) [(6, .int (0 : Int32)), (5, .int (x5 / (3 : Int32))), (8, .int (x5 - x5 / (3 : Int32) * (3 : Int32))), (0, .ref x0), (1, .int x1), (2, .long x2), (4, .int x4), (7, .int x7)] [] rfl (fun _ => rfl) rfl ?_
        refine dg_L (pc' := 79) [(7, .int (x7 + (1 : Int32))), (6, .int (0 : Int32)), (5, .int (x5 / (3 : Int32))), (8, .int (x5 - x5 / (3 : Int32) * (3 : Int32))), (0, .ref x0), (1, .int x1), (2, .long x2), (4, .int x4)] [] rfl (fun _ => rfl) rfl ?_
        refine dw_s (pc' := 25) [] rfl (fun _ => rfl) ?_
        exact dw_j rfl (fun lv1 hv => ih (x5 / (3 : Int32)) (0 : Int32) (x7 + (1 : Int32)) lv1 (hv.1 _ rfl) (hv.2.1 _ rfl) (hv.2.2.1 _ rfl) (hv.2.2.2.1 _ rfl) (hv.2.2.2.2.1 _ rfl) (hv.2.2.2.2.2.1 _ rfl) (hv.2.2.2.2.2.2.1 _ rfl))
      · refine dw_g rfl ?_
        refine dg_s (pc' := 53) [.int (x5 - x5 / (3 : Int32) * (3 : Int32))] rfl (fun _ => rfl) rfl ?_
        refine dg_s (pc' := 54) [.int (2 : Int32), .int (x5 - x5 / (3 : Int32) * (3 : Int32))] rfl (fun _ => rfl) rfl ?_
        refine dw_if (fun t => Φ (Option.bind t (dc_bk (d_X10_levelsOf_l25s x0 x1 x2 x4 m)))) ((Int32.toInt (x5 - x5 / (3 : Int32) * (3 : Int32))) = 2) [] 69 57 rfl (fun _ => rfl) (fun c2 => ?_) (fun c2 => ?_)
        · refine dw_g rfl ?_
          refine dg_s (pc' := 70) [.int (1 : Int32)] rfl (fun _ => rfl) rfl ?_
          refine dg_s (pc' := 74) [.int (1 : Int32)] rfl (fun _ => rfl) rfl ?_
          refine dg_L (pc' := 76) [(6, .int (1 : Int32)), (5, .int (x5 / (3 : Int32))), (8, .int (x5 - x5 / (3 : Int32) * (3 : Int32))), (0, .ref x0), (1, .int x1), (2, .long x2), (4, .int x4), (7, .int x7)] [] rfl (fun _ => rfl) rfl ?_
          refine dg_L (pc' := 79) [(7, .int (x7 + (1 : Int32))), (6, .int (1 : Int32)), (5, .int (x5 / (3 : Int32))), (8, .int (x5 - x5 / (3 : Int32) * (3 : Int32))), (0, .ref x0), (1, .int x1), (2, .long x2), (4, .int x4)] [] rfl (fun _ => rfl) rfl ?_
          refine dw_s (pc' := 25) [] rfl (fun _ => rfl) ?_
          exact dw_j rfl (fun lv1 hv => ih (x5 / (3 : Int32)) (1 : Int32) (x7 + (1 : Int32)) lv1 (hv.1 _ rfl) (hv.2.1 _ rfl) (hv.2.2.1 _ rfl) (hv.2.2.2.1 _ rfl) (hv.2.2.2.2.1 _ rfl) (hv.2.2.2.2.2.1 _ rfl) (hv.2.2.2.2.2.2.1 _ rfl))
        · refine dw_g rfl ?_
          refine dg_s (pc' := 59) [.int (x5 - x5 / (3 : Int32) * (3 : Int32))] rfl (fun _ => rfl) rfl ?_
          refine dg_s (pc' := 61) [.int x4, .int (x5 - x5 / (3 : Int32) * (3 : Int32))] rfl (fun _ => rfl) rfl ?_
          refine dg_s (pc' := 63) [.int x7, .int x4, .int (x5 - x5 / (3 : Int32) * (3 : Int32))] rfl (fun _ => rfl) rfl ?_
          refine dg_s (pc' := 64) [.int (x4 >>> (x7 &&& 31)), .int (x5 - x5 / (3 : Int32) * (3 : Int32))] rfl (fun _ => rfl) rfl ?_
          refine dg_s (pc' := 65) [.int (1 : Int32), .int (x4 >>> (x7 &&& 31)), .int (x5 - x5 / (3 : Int32) * (3 : Int32))] rfl (fun _ => rfl) rfl ?_
          refine dg_s (pc' := 66) [.int ((x4 >>> (x7 &&& 31)) &&& (1 : Int32)), .int (x5 - x5 / (3 : Int32) * (3 : Int32))] rfl (fun _ => rfl) rfl ?_
          refine dw_if (fun t => Φ (Option.bind t (dc_bk (d_X10_levelsOf_l25s x0 x1 x2 x4 m)))) (¬ (Int32.toInt (x5 - x5 / (3 : Int32) * (3 : Int32))) = (Int32.toInt ((x4 >>> (x7 &&& 31)) &&& (1 : Int32)))) [] 73 69 rfl (fun _ => rfl) (fun c3 => ?_) (fun c3 => ?_)
          · refine dw_g rfl ?_
            refine dg_s (pc' := 74) [.int (0 : Int32)] rfl (fun _ => rfl) rfl ?_
            refine dg_L (pc' := 76) [(6, .int (0 : Int32)), (5, .int (x5 / (3 : Int32))), (8, .int (x5 - x5 / (3 : Int32) * (3 : Int32))), (0, .ref x0), (1, .int x1), (2, .long x2), (4, .int x4), (7, .int x7)] [] rfl (fun _ => rfl) rfl ?_
            refine dg_L (pc' := 79) [(7, .int (x7 + (1 : Int32))), (6, .int (0 : Int32)), (5, .int (x5 / (3 : Int32))), (8, .int (x5 - x5 / (3 : Int32) * (3 : Int32))), (0, .ref x0), (1, .int x1), (2, .long x2), (4, .int x4)] [] rfl (fun _ => rfl) rfl ?_
            refine dw_s (pc' := 25) [] rfl (fun _ => rfl) ?_
            exact dw_j rfl (fun lv1 hv => ih (x5 / (3 : Int32)) (0 : Int32) (x7 + (1 : Int32)) lv1 (hv.1 _ rfl) (hv.2.1 _ rfl) (hv.2.2.1 _ rfl) (hv.2.2.2.1 _ rfl) (hv.2.2.2.2.1 _ rfl) (hv.2.2.2.2.2.1 _ rfl) (hv.2.2.2.2.2.2.1 _ rfl))
          · refine dw_g rfl ?_
            refine dg_s (pc' := 70) [.int (1 : Int32)] rfl (fun _ => rfl) rfl ?_
            refine dg_s (pc' := 74) [.int (1 : Int32)] rfl (fun _ => rfl) rfl ?_
            refine dg_L (pc' := 76) [(6, .int (1 : Int32)), (5, .int (x5 / (3 : Int32))), (8, .int (x5 - x5 / (3 : Int32) * (3 : Int32))), (0, .ref x0), (1, .int x1), (2, .long x2), (4, .int x4), (7, .int x7)] [] rfl (fun _ => rfl) rfl ?_
            refine dg_L (pc' := 79) [(7, .int (x7 + (1 : Int32))), (6, .int (1 : Int32)), (5, .int (x5 / (3 : Int32))), (8, .int (x5 - x5 / (3 : Int32) * (3 : Int32))), (0, .ref x0), (1, .int x1), (2, .long x2), (4, .int x4)] [] rfl (fun _ => rfl) rfl ?_
            refine dw_s (pc' := 25) [] rfl (fun _ => rfl) ?_
            exact dw_j rfl (fun lv1 hv => ih (x5 / (3 : Int32)) (1 : Int32) (x7 + (1 : Int32)) lv1 (hv.1 _ rfl) (hv.2.1 _ rfl) (hv.2.2.1 _ rfl) (hv.2.2.2.1 _ rfl) (hv.2.2.2.2.1 _ rfl) (hv.2.2.2.2.2.1 _ rfl) (hv.2.2.2.2.2.2.1 _ rfl))
noncomputable def d_X10_levelsOf_l5b (x0 : Nat) (x1 : Int32) (x2 : Int64) (x4 : Int32) (m : dc_M) : Option ((Int64 × Int32) ⊕ Int64) :=
  (if (Int32.toInt ((1 : Int32) <<< ((m.1 x0 0) &&& 31))) ≤ (Int32.toInt x4) then some (Sum.inr (x2)) else (d_X10_levelsOf_l25 x0 x1 x2 x4 x1 (1 : Int32) (0 : Int32) m))
noncomputable def d_X10_levelsOf_l5s (x0 : Nat) (x1 : Int32) (m : dc_M) : (Int64 × Int32) → Option ((Int64 × Int32) ⊕ Int64) := fun s => d_X10_levelsOf_l5b x0 x1 s.1 s.2 m
noncomputable def d_X10_levelsOf_l5 (x0 : Nat) (x1 : Int32) (x2 : Int64) (x4 : Int32) (m : dc_M) : Option Int64 := dc_lp (d_X10_levelsOf_l5s x0 x1 m) (x2, x4)
set_option maxHeartbeats 8000000 in
theorem k_X10_levelsOf_l5 {u : Nat} {Φ : (Option Int64) → Option Value → dc_M → Prop} (x0 : Nat) (x1 : Int32) (m : dc_M) (kR : ∀ (v : Int64), Φ (some (v)) (some (.long v)) m) : ∀ (N : Nat), ∀ (x2 : Int64) (x4 : Int32) (lv : ab_L), ab_lk lv 0 = some (.ref x0) → ab_lk lv 1 = some (.int x1) → ab_lk lv 2 = some (.long x2) → ab_lk lv 4 = some (.int x4) → dc_pv u N ab_M_X10_levelsOf 5 lv [] m (Φ (d_X10_levelsOf_l5 x0 x1 x2 x4 m)) := by
  intro N
  induction N with
  | zero => intros; exact dc_pv_zero
  | succ N ih =>
    intro x2 x4 lv f0 f1 f2 f4
    refine dc_ok (C := C_X10_levelsOf) (S := S_X10_levelsOf) CO_X10_levelsOf 400 5 [(0, .ref x0), (1, .int x1), (2, .long x2), (4, .int x4)] lv [] m (dc_sub_cons f0 (dc_sub_cons f1 (dc_sub_cons f2 (dc_sub_cons f4 (dc_sub_nil))))) ?_
    unfold d_X10_levelsOf_l5
    rw [dc_lp_eq]
    show (fun t x => dc_lf u N ab_M_X10_levelsOf (Φ (Option.bind t (dc_bk (d_X10_levelsOf_l5s x0 x1 m)))) x) (d_X10_levelsOf_l5b x0 x1 x2 x4 m) _
    dsimp only
    unfold d_X10_levelsOf_l5b
    refine dg_s (pc' := 7) [.int x4] rfl (fun _ => rfl) rfl ?_
    refine dg_s (pc' := 8) [.int (1 : Int32), .int x4] rfl (fun _ => rfl) rfl ?_
    refine dg_s (pc' := 9) [.ref x0, .int (1 : Int32), .int x4] rfl (fun _ => rfl) rfl ?_
    refine dg_s (pc' := 12) [.int (m.1 x0 0), .int (1 : Int32), .int x4] rfl (fun _ => rfl) rfl ?_
    refine dg_s (pc' := 13) [.int ((1 : Int32) <<< ((m.1 x0 0) &&& 31)), .int x4] rfl (fun _ => rfl) rfl ?_
    refine dw_if (fun t => Φ (Option.bind t (dc_bk (d_X10_levelsOf_l5s x0 x1 m)))) ((Int32.toInt ((1 : Int32) <<< ((m.1 x0 0) &&& 31))) ≤ (Int32.toInt x4)) [] 104 16 rfl (fun _ => rfl) (fun c0 => ?_) (fun c0 => ?_)
    · refine dw_g rfl ?_
      refine dg_s (pc' := 105) [.long x2] rfl (fun _ => rfl) rfl ?_
      exact dw_r (some (.inl (some (.long x2), m))) rfl (fun _ => rfl) (kR _)
    · refine dw_g rfl ?_
      refine dg_s (pc' := 17) [.int x1] rfl (fun _ => rfl) rfl ?_
      refine dg_L (pc' := 19) [(5, .int x1), (0, .ref x0), (1, .int x1), (2, .long x2), (4, .int x4)] [] rfl (fun _ => rfl) rfl ?_
      refine dg_s (pc' := 20) [.int (1 : Int32)] rfl (fun _ => rfl) rfl ?_
      refine dg_L (pc' := 22) [(6, .int (1 : Int32)), (5, .int x1), (0, .ref x0), (1, .int x1), (2, .long x2), (4, .int x4)] [] rfl (fun _ => rfl) rfl ?_
      refine dg_s (pc' := 23) [.int (0 : Int32)] rfl (fun _ => rfl) rfl ?_
      refine dw_L (pc' := 25) [(7, .int (0 : Int32)), (6, .int (1 : Int32)), (5, .int x1), (0, .ref x0), (1, .int x1), (2, .long x2), (4, .int x4)] [] rfl (fun _ => rfl) ?_
      exact dw_j rfl (fun lv1 hv => k_X10_levelsOf_l25 (Φ := (fun t => Φ (Option.bind t (dc_bk (d_X10_levelsOf_l5s x0 x1 m))))) x0 x1 x2 x4 m (fun _a  => kR _a) N ih x1 (1 : Int32) (0 : Int32) lv1 (hv.1 _ rfl) (hv.2.1 _ rfl) (hv.2.2.1 _ rfl) (hv.2.2.2.1 _ rfl) (hv.2.2.2.2.1 _ rfl) (hv.2.2.2.2.2.1 _ rfl) (hv.2.2.2.2.2.2.1 _ rfl))
noncomputable def d_X10_levelsOf (x0 : Nat) (x1 : Int32) (m : dc_M) : Option Int64 :=
  (d_X10_levelsOf_l5 x0 x1 (0 : Int64) (0 : Int32) m)
set_option maxHeartbeats 8000000 in
theorem k_X10_levelsOf {u : Nat} {N : Nat} {Φ : (Option Int64) → Option Value → dc_M → Prop} (x0 : Nat) (x1 : Int32) (m : dc_M) (kR : ∀ (v : Int64), Φ (some (v)) (some (.long v)) m)  {lv : ab_L} (f0 : ab_lk lv 0 = some (.ref x0)) (f1 : ab_lk lv 1 = some (.int x1)) : dc_pv u N ab_M_X10_levelsOf 0 lv [] m (Φ (d_X10_levelsOf x0 x1 m)) := by
  refine dc_pv.mono (dc_ok (C := C_X10_levelsOf) (S := S_X10_levelsOf) CO_X10_levelsOf 400 0 [(0, .ref x0), (1, .int x1)] lv [] m (dc_sub_cons f0 (dc_sub_cons f1 (dc_sub_nil))) ?_) (Nat.le_succ N)
  unfold d_X10_levelsOf
  refine dg_s (pc' := 1) [.long (0 : Int64)] rfl (fun _ => rfl) rfl ?_
  refine dg_L (pc' := 2) [(2, .long (0 : Int64)), (0, .ref x0), (1, .int x1)] [] rfl (fun _ => rfl) rfl ?_
  refine dg_s (pc' := 3) [.int (0 : Int32)] rfl (fun _ => rfl) rfl ?_
  refine dw_L (pc' := 5) [(4, .int (0 : Int32)), (2, .long (0 : Int64)), (0, .ref x0), (1, .int x1)] [] rfl (fun _ => rfl) ?_
  exact dw_j rfl (fun lv1 hv => k_X10_levelsOf_l5 (Φ := (fun t => Φ t)) x0 x1 m (fun _a  => kR _a) N  (0 : Int64) (0 : Int32) lv1 (hv.1 _ rfl) (hv.2.1 _ rfl) (hv.2.2.1 _ rfl) (hv.2.2.2.1 _ rfl))
noncomputable def H_X10_levelsOf : dc_H := fun As m k => match As with
  | [.ref x0, .int x1] => (d_X10_levelsOf x0 x1 m).bind (fun q => k (some (.long q)) m)
  | _ => dc_kz
theorem H_X10_levelsOf_ok {u : Nat} : dc_cok u 191 H_X10_levelsOf := fun M' hG N As m k P hz hP => by
  obtain rfl : ab_M_X10_levelsOf = M' := Option.some.inj hG
  unfold H_X10_levelsOf at hP
  split at hP
  · rename_i x0 x1
    exact dc_pv.imp (k_X10_levelsOf (Φ := fun (t : Option Int64) r m' => P (t.bind (fun q => k (some (.long q)) m)) → P (k r m')) x0 x1 m (fun _  h => h) rfl rfl) (fun r m' h => h hP)
  · exact absurd hP hz
noncomputable def C_X10_judge : List (Nat × dc_H) := [(190, H_X10_cubeAll), (146, H_X10_in), (199, H_X10_isOwn), (188, H_X10_layAims), (175, H_X10_layRight), (191, H_X10_levelsOf)]
theorem CO_X10_judge {u : Nat} : dc_CO u C_X10_judge := dc_CO_cons H_X10_cubeAll_ok (dc_CO_cons H_X10_in_ok (dc_CO_cons H_X10_isOwn_ok (dc_CO_cons H_X10_layAims_ok (dc_CO_cons H_X10_layRight_ok (dc_CO_cons H_X10_levelsOf_ok (dc_CO_nil))))))
def S_X10_judge : List (Nat × List Nat) := [(114, [0, 2, 4, 5, 6, 8]), (204, [0, 6])]
noncomputable def d_X10_judge_b204 (x0 : Nat) (x6 : Int64) (m : dc_M) : Option (Int32 × dc_M) :=
  (if (Int32.toInt (lg_cmp (x6 &&& (m.2.1 x0 48)) (0 : Int64))) = 0 then (if (Int32.toInt (lg_cmp ((m.2.1 x0 47) &&& (x6 ^^^ (-1 : Int64))) (0 : Int64))) = 0 then some (((1 : Int32), m)) else some (((0 : Int32), m))) else some (((2 : Int32), m)))
set_option maxHeartbeats 8000000 in
theorem k_X10_judge_b204 {u : Nat} {N : Nat} {Φ : (Option (Int32 × dc_M)) → Option Value → dc_M → Prop} (x0 : Nat) (x6 : Int64) (m : dc_M) (kR : ∀ (v : Int32) (m : dc_M), Φ (some ((v, m))) (some (.int v)) m)  {lv : ab_L} (f0 : ab_lk lv 0 = some (.ref x0)) (f6 : ab_lk lv 6 = some (.long x6)) : dc_pv u N ab_M_X10_judge 204 lv [] m (Φ (d_X10_judge_b204 x0 x6 m)) := by
  refine dc_pv.mono (dc_ok (C := C_X10_judge) (S := S_X10_judge) CO_X10_judge 400 204 [(0, .ref x0), (6, .long x6)] lv [] m (dc_sub_cons f0 (dc_sub_cons f6 (dc_sub_nil))) ?_) (Nat.le_succ N)
  unfold d_X10_judge_b204
  refine dg_s (pc' := 206) [.long x6] rfl (fun _ => rfl) rfl ?_
  refine dg_s (pc' := 207) [.ref x0, .long x6] rfl (fun _ => rfl) rfl ?_
  refine dg_s (pc' := 210) [.long (m.2.1 x0 48), .long x6] rfl (fun _ => rfl) rfl ?_
  refine dg_s (pc' := 211) [.long (x6 &&& (m.2.1 x0 48))] rfl (fun _ => rfl) rfl ?_
  refine dg_s (pc' := 212) [.long (0 : Int64), .long (x6 &&& (m.2.1 x0 48))] rfl (fun _ => rfl) rfl ?_
  refine dg_s (pc' := 213) [.int (lg_cmp (x6 &&& (m.2.1 x0 48)) (0 : Int64))] rfl (fun _ => rfl) rfl ?_
  refine dw_if (fun t => Φ t) ((Int32.toInt (lg_cmp (x6 &&& (m.2.1 x0 48)) (0 : Int64))) = 0) [] 220 216 rfl (fun _ => rfl) (fun c0 => ?_) (fun c0 => ?_)
  · refine dw_g rfl ?_
    refine dg_s (pc' := 221) [.ref x0] rfl (fun _ => rfl) rfl ?_
    refine dg_s (pc' := 224) [.long (m.2.1 x0 47)] rfl (fun _ => rfl) rfl ?_
    refine dg_s (pc' := 226) [.long x6, .long (m.2.1 x0 47)] rfl (fun _ => rfl) rfl ?_
    refine dg_s (pc' := 229) [.long (-1 : Int64), .long x6, .long (m.2.1 x0 47)] rfl (fun _ => rfl) rfl ?_
    refine dg_s (pc' := 230) [.long (x6 ^^^ (-1 : Int64)), .long (m.2.1 x0 47)] rfl (fun _ => rfl) rfl ?_
    refine dg_s (pc' := 231) [.long ((m.2.1 x0 47) &&& (x6 ^^^ (-1 : Int64)))] rfl (fun _ => rfl) rfl ?_
    refine dg_s (pc' := 232) [.long (0 : Int64), .long ((m.2.1 x0 47) &&& (x6 ^^^ (-1 : Int64)))] rfl (fun _ => rfl) rfl ?_
    refine dg_s (pc' := 233) [.int (lg_cmp ((m.2.1 x0 47) &&& (x6 ^^^ (-1 : Int64))) (0 : Int64))] rfl (fun _ => rfl) rfl ?_
    refine dw_if (fun t => Φ t) ((Int32.toInt (lg_cmp ((m.2.1 x0 47) &&& (x6 ^^^ (-1 : Int64))) (0 : Int64))) = 0) [] 240 236 rfl (fun _ => rfl) (fun c1 => ?_) (fun c1 => ?_)
    · refine dw_g rfl ?_
      refine dg_s (pc' := 241) [.int (1 : Int32)] rfl (fun _ => rfl) rfl ?_
      exact dw_r (some (.inl (some (.int (1 : Int32)), m))) rfl (fun _ => rfl) (kR _ _)
    · refine dw_g rfl ?_
      refine dg_s (pc' := 237) [.int (0 : Int32)] rfl (fun _ => rfl) rfl ?_
      refine dg_s (pc' := 241) [.int (0 : Int32)] rfl (fun _ => rfl) rfl ?_
      exact dw_r (some (.inl (some (.int (0 : Int32)), m))) rfl (fun _ => rfl) (kR _ _)
  · refine dw_g rfl ?_
    refine dg_s (pc' := 217) [.int (2 : Int32)] rfl (fun _ => rfl) rfl ?_
    refine dg_s (pc' := 241) [.int (2 : Int32)] rfl (fun _ => rfl) rfl ?_
    exact dw_r (some (.inl (some (.int (2 : Int32)), m))) rfl (fun _ => rfl) (kR _ _)
noncomputable def d_X10_judge_l114b (x0 : Nat) (x2 : Int32) (x4 : Int32) (x5 : Int32) (x6 : Int64) (x8 : Int32) (m : dc_M) : Option ((Int64 × Int32) ⊕ (Int32 × dc_M)) :=
  (if (Int32.toInt x5) ≤ (Int32.toInt x8) then ((d_X10_judge_b204 x0 x6 m).map (fun z => Sum.inr (z))) else (if ¬ (Int32.toInt (d_X10_in ((Int32.toInt64 x4) + (Int32.toInt64 x8)) (0 : Int64) (Int32.toInt64 ((m.1 (x0 + 36) (Int32.toNatClampNeg x2)) - (1 : Int32))) m)) = 0 then ((d_X10_cubeAll x0 m).bind (fun q1 => (if ¬ (Int32.toInt (d_X10_in (Int32.toInt64 (m.1 (x0 + 37) (Int32.toNatClampNeg ((((64 : Int32) * x2) + x4) + x8)))) (0 : Int64) (Int32.toInt64 (q1 - (1 : Int32))) m)) = 0 then ((d_X10_levelsOf x0 (m.1 (x0 + 37) (Int32.toNatClampNeg ((((64 : Int32) * x2) + x4) + x8))) m).bind (fun q2 => some (Sum.inl ((x6 ||| q2), (x8 + (1 : Int32)))))) else some (Sum.inr ((((-20 : Int32) - x8), m)))))) else some (Sum.inr (((-12 : Int32), m)))))
noncomputable def d_X10_judge_l114s (x0 : Nat) (x2 : Int32) (x4 : Int32) (x5 : Int32) (m : dc_M) : (Int64 × Int32) → Option ((Int64 × Int32) ⊕ (Int32 × dc_M)) := fun s => d_X10_judge_l114b x0 x2 x4 x5 s.1 s.2 m
noncomputable def d_X10_judge_l114 (x0 : Nat) (x2 : Int32) (x4 : Int32) (x5 : Int32) (x6 : Int64) (x8 : Int32) (m : dc_M) : Option (Int32 × dc_M) := dc_lp (d_X10_judge_l114s x0 x2 x4 x5 m) (x6, x8)
set_option maxHeartbeats 8000000 in
theorem k_X10_judge_l114 {u : Nat} {Φ : (Option (Int32 × dc_M)) → Option Value → dc_M → Prop} (x0 : Nat) (x2 : Int32) (x4 : Int32) (x5 : Int32) (m : dc_M) (kR : ∀ (v : Int32) (m : dc_M), Φ (some ((v, m))) (some (.int v)) m) : ∀ (N : Nat), ∀ (x6 : Int64) (x8 : Int32) (lv : ab_L), ab_lk lv 0 = some (.ref x0) → ab_lk lv 2 = some (.int x2) → ab_lk lv 4 = some (.int x4) → ab_lk lv 5 = some (.int x5) → ab_lk lv 6 = some (.long x6) → ab_lk lv 8 = some (.int x8) → dc_pv u N ab_M_X10_judge 114 lv [] m (Φ (d_X10_judge_l114 x0 x2 x4 x5 x6 x8 m)) := by
  intro N
  induction N with
  | zero => intros; exact dc_pv_zero
  | succ N ih =>
    intro x6 x8 lv f0 f2 f4 f5 f6 f8
    refine dc_ok (C := C_X10_judge) (S := S_X10_judge) CO_X10_judge 400 114 [(0, .ref x0), (2, .int x2), (4, .int x4), (5, .int x5), (6, .long x6), (8, .int x8)] lv [] m (dc_sub_cons f0 (dc_sub_cons f2 (dc_sub_cons f4 (dc_sub_cons f5 (dc_sub_cons f6 (dc_sub_cons f8 (dc_sub_nil))))))) ?_
    unfold d_X10_judge_l114
    rw [dc_lp_eq]
    show (fun t x => dc_lf u N ab_M_X10_judge (Φ (Option.bind t (dc_bk (d_X10_judge_l114s x0 x2 x4 x5 m)))) x) (d_X10_judge_l114b x0 x2 x4 x5 x6 x8 m) _
    dsimp only
    unfold d_X10_judge_l114b
    refine dg_s (pc' := 116) [.int x8] rfl (fun _ => rfl) rfl ?_
    refine dg_s (pc' := 118) [.int x5, .int x8] rfl (fun _ => rfl) rfl ?_
    refine dw_if (fun t => Φ (Option.bind t (dc_bk (d_X10_judge_l114s x0 x2 x4 x5 m)))) ((Int32.toInt x5) ≤ (Int32.toInt x8)) [] 204 121 rfl (fun _ => rfl) (fun c0 => ?_) (fun c0 => ?_)
    · exact dw_j rfl (fun lv1 hv => k_X10_judge_b204 (Φ := (fun t => Φ (Option.bind (t.map (fun z => Sum.inr (z))) (dc_bk (d_X10_judge_l114s x0 x2 x4 x5 m))))) x0 x6 m (fun _a _b => kR _a _b)  (hv.1 _ rfl) (hv.2.1 _ rfl))
    · refine dw_g rfl ?_
      refine dg_s (pc' := 123) [.int x4] rfl (fun _ => rfl) rfl ?_
      refine dg_s (pc' := 124) [.long (Int32.toInt64 x4)] rfl (fun _ => rfl) rfl ?_
      refine dg_s (pc' := 126) [.int x8, .long (Int32.toInt64 x4)] rfl (fun _ => rfl) rfl ?_
      refine dg_s (pc' := 127) [.long (Int32.toInt64 x8), .long (Int32.toInt64 x4)] rfl (fun _ => rfl) rfl ?_
      refine dg_s (pc' := 128) [.long ((Int32.toInt64 x4) + (Int32.toInt64 x8))] rfl (fun _ => rfl) rfl ?_
      refine dg_s (pc' := 129) [.long (0 : Int64), .long ((Int32.toInt64 x4) + (Int32.toInt64 x8))] rfl (fun _ => rfl) rfl ?_
      refine dg_s (pc' := 130) [.ref x0, .long (0 : Int64), .long ((Int32.toInt64 x4) + (Int32.toInt64 x8))] rfl (fun _ => rfl) rfl ?_
      refine dg_s (pc' := 133) [.ref (x0 + 36), .long (0 : Int64), .long ((Int32.toInt64 x4) + (Int32.toInt64 x8))] rfl (fun _ => rfl) rfl ?_
      refine dg_s (pc' := 134) [.int x2, .ref (x0 + 36), .long (0 : Int64), .long ((Int32.toInt64 x4) + (Int32.toInt64 x8))] rfl (fun _ => rfl) rfl ?_
      refine dg_s (pc' := 135) [.int (m.1 (x0 + 36) (Int32.toNatClampNeg x2)), .long (0 : Int64), .long ((Int32.toInt64 x4) + (Int32.toInt64 x8))] rfl (fun _ => rfl) rfl ?_
      refine dg_s (pc' := 136) [.int (1 : Int32), .int (m.1 (x0 + 36) (Int32.toNatClampNeg x2)), .long (0 : Int64), .long ((Int32.toInt64 x4) + (Int32.toInt64 x8))] rfl (fun _ => rfl) rfl ?_
      refine dg_s (pc' := 137) [.int ((m.1 (x0 + 36) (Int32.toNatClampNeg x2)) - (1 : Int32)), .long (0 : Int64), .long ((Int32.toInt64 x4) + (Int32.toInt64 x8))] rfl (fun _ => rfl) rfl ?_
      refine dg_s (pc' := 138) [.long (Int32.toInt64 ((m.1 (x0 + 36) (Int32.toNatClampNeg x2)) - (1 : Int32))), .long (0 : Int64), .long ((Int32.toInt64 x4) + (Int32.toInt64 x8))] rfl (fun _ => rfl) rfl ?_
      refine dg_s (pc' := 141) [.int (d_X10_in ((Int32.toInt64 x4) + (Int32.toInt64 x8)) (0 : Int64) (Int32.toInt64 ((m.1 (x0 + 36) (Int32.toNatClampNeg x2)) - (1 : Int32))) m)] rfl (fun _ => rfl) rfl ?_
      refine dw_if (fun t => Φ (Option.bind t (dc_bk (d_X10_judge_l114s x0 x2 x4 x5 m)))) (¬ (Int32.toInt (d_X10_in ((Int32.toInt64 x4) + (Int32.toInt64 x8)) (0 : Int64) (Int32.toInt64 ((m.1 (x0 + 36) (Int32.toNatClampNeg x2)) - (1 : Int32))) m)) = 0) [] 147 144 rfl (fun _ => rfl) (fun c1 => ?_) (fun c1 => ?_)
      · refine dw_g rfl ?_
        refine dg_s (pc' := 148) [.ref x0] rfl (fun _ => rfl) rfl ?_
        refine dg_s (pc' := 151) [.ref (x0 + 37)] rfl (fun _ => rfl) rfl ?_
        refine dg_s (pc' := 153) [.int (64 : Int32), .ref (x0 + 37)] rfl (fun _ => rfl) rfl ?_
        refine dg_s (pc' := 154) [.int x2, .int (64 : Int32), .ref (x0 + 37)] rfl (fun _ => rfl) rfl ?_
        refine dg_s (pc' := 155) [.int ((64 : Int32) * x2), .ref (x0 + 37)] rfl (fun _ => rfl) rfl ?_
        refine dg_s (pc' := 157) [.int x4, .int ((64 : Int32) * x2), .ref (x0 + 37)] rfl (fun _ => rfl) rfl ?_
        refine dg_s (pc' := 158) [.int (((64 : Int32) * x2) + x4), .ref (x0 + 37)] rfl (fun _ => rfl) rfl ?_
        refine dg_s (pc' := 160) [.int x8, .int (((64 : Int32) * x2) + x4), .ref (x0 + 37)] rfl (fun _ => rfl) rfl ?_
        refine dg_s (pc' := 161) [.int ((((64 : Int32) * x2) + x4) + x8), .ref (x0 + 37)] rfl (fun _ => rfl) rfl ?_
        refine dg_s (pc' := 162) [.int (m.1 (x0 + 37) (Int32.toNatClampNeg ((((64 : Int32) * x2) + x4) + x8)))] rfl (fun _ => rfl) rfl ?_
        refine dg_L (pc' := 164) [(9, .int (m.1 (x0 + 37) (Int32.toNatClampNeg ((((64 : Int32) * x2) + x4) + x8)))), (0, .ref x0), (2, .int x2), (4, .int x4), (5, .int x5), (6, .long x6), (8, .int x8)] [] rfl (fun _ => rfl) rfl ?_
        refine dg_s (pc' := 166) [.int (m.1 (x0 + 37) (Int32.toNatClampNeg ((((64 : Int32) * x2) + x4) + x8)))] rfl (fun _ => rfl) rfl ?_
        refine dg_s (pc' := 167) [.long (Int32.toInt64 (m.1 (x0 + 37) (Int32.toNatClampNeg ((((64 : Int32) * x2) + x4) + x8))))] rfl (fun _ => rfl) rfl ?_
        refine dg_s (pc' := 168) [.long (0 : Int64), .long (Int32.toInt64 (m.1 (x0 + 37) (Int32.toNatClampNeg ((((64 : Int32) * x2) + x4) + x8))))] rfl (fun _ => rfl) rfl ?_
        refine dg_s (pc' := 169) [.ref x0, .long (0 : Int64), .long (Int32.toInt64 (m.1 (x0 + 37) (Int32.toNatClampNeg ((((64 : Int32) * x2) + x4) + x8))))] rfl (fun _ => rfl) rfl ?_
        refine dw_b (fun t => Φ (Option.bind t (dc_bk (d_X10_judge_l114s x0 x2 x4 x5 m)))) (pc' := 172) (fun q1 => [.int q1, .long (0 : Int64), .long (Int32.toInt64 (m.1 (x0 + 37) (Int32.toNatClampNeg ((((64 : Int32) * x2) + x4) + x8))))]) (fun q1 => m) rfl (fun _ => rfl) (fun q1 => ?_)
        refine dw_g rfl ?_
        refine dg_s (pc' := 173) [.int (1 : Int32), .int q1, .long (0 : Int64), .long (Int32.toInt64 (m.1 (x0 + 37) (Int32.toNatClampNeg ((((64 : Int32) * x2) + x4) + x8))))] rfl (fun _ => rfl) rfl ?_
        refine dg_s (pc' := 174) [.int (q1 - (1 : Int32)), .long (0 : Int64), .long (Int32.toInt64 (m.1 (x0 + 37) (Int32.toNatClampNeg ((((64 : Int32) * x2) + x4) + x8))))] rfl (fun _ => rfl) rfl ?_
        refine dg_s (pc' := 175) [.long (Int32.toInt64 (q1 - (1 : Int32))), .long (0 : Int64), .long (Int32.toInt64 (m.1 (x0 + 37) (Int32.toNatClampNeg ((((64 : Int32) * x2) + x4) + x8))))] rfl (fun _ => rfl) rfl ?_
        refine dg_s (pc' := 178) [.int (d_X10_in (Int32.toInt64 (m.1 (x0 + 37) (Int32.toNatClampNeg ((((64 : Int32) * x2) + x4) + x8)))) (0 : Int64) (Int32.toInt64 (q1 - (1 : Int32))) m)] rfl (fun _ => rfl) rfl ?_
        refine dw_if (fun t => Φ (Option.bind t (dc_bk (d_X10_judge_l114s x0 x2 x4 x5 m)))) (¬ (Int32.toInt (d_X10_in (Int32.toInt64 (m.1 (x0 + 37) (Int32.toNatClampNeg ((((64 : Int32) * x2) + x4) + x8)))) (0 : Int64) (Int32.toInt64 (q1 - (1 : Int32))) m)) = 0) [] 187 181 rfl (fun _ => rfl) (fun c2 => ?_) (fun c2 => ?_)
        · refine dw_g rfl ?_
          refine dg_s (pc' := 189) [.long x6] rfl (fun _ => rfl) rfl ?_
          refine dg_s (pc' := 190) [.ref x0, .long x6] rfl (fun _ => rfl) rfl ?_
          refine dg_s (pc' := 192) [.int (m.1 (x0 + 37) (Int32.toNatClampNeg ((((64 : Int32) * x2) + x4) + x8))), .ref x0, .long x6] rfl (fun _ => rfl) rfl ?_
          refine dw_b (fun t => Φ (Option.bind t (dc_bk (d_X10_judge_l114s x0 x2 x4 x5 m)))) (pc' := 195) (fun q2 => [.long q2, .long x6]) (fun q2 => m) rfl (fun _ => rfl) (fun q2 => ?_)
          refine dw_g rfl ?_
          refine dg_s (pc' := 196) [.long (x6 ||| q2)] rfl (fun _ => rfl) rfl ?_
          refine dg_L (pc' := 198) [(6, .long (x6 ||| q2)), (9, .int (m.1 (x0 + 37) (Int32.toNatClampNeg ((((64 : Int32) * x2) + x4) + x8)))), (0, .ref x0), (2, .int x2), (4, .int x4), (5, .int x5), (8, .int x8)] [] rfl (fun _ => rfl) rfl ?_
          refine dg_L (pc' := 201) [(8, .int (x8 + (1 : Int32))), (6, .long (x6 ||| q2)), (9, .int (m.1 (x0 + 37) (Int32.toNatClampNeg ((((64 : Int32) * x2) + x4) + x8)))), (0, .ref x0), (2, .int x2), (4, .int x4), (5, .int x5)] [] rfl (fun _ => rfl) rfl ?_
          refine dw_s (pc' := 114) [] rfl (fun _ => rfl) ?_
          exact dw_j rfl (fun lv1 hv => ih (x6 ||| q2) (x8 + (1 : Int32)) lv1 (hv.1 _ rfl) (hv.2.1 _ rfl) (hv.2.2.1 _ rfl) (hv.2.2.2.1 _ rfl) (hv.2.2.2.2.1 _ rfl) (hv.2.2.2.2.2.1 _ rfl))
        · refine dw_g rfl ?_
          refine dg_s (pc' := 183) [.int (-20 : Int32)] rfl (fun _ => rfl) rfl ?_
          refine dg_s (pc' := 185) [.int x8, .int (-20 : Int32)] rfl (fun _ => rfl) rfl ?_
          refine dg_s (pc' := 186) [.int ((-20 : Int32) - x8)] rfl (fun _ => rfl) rfl ?_
          exact dw_r (some (.inl (some (.int ((-20 : Int32) - x8)), m))) rfl (fun _ => rfl) (kR _ _)
      · refine dw_g rfl ?_
        refine dg_s (pc' := 146) [.int (-12 : Int32)] rfl (fun _ => rfl) rfl ?_
        exact dw_r (some (.inl (some (.int (-12 : Int32)), m))) rfl (fun _ => rfl) (kR _ _)
noncomputable def d_X10_judge (x0 : Nat) (x1 : Int32) (x2 : Int32) (x3 : Int32) (x4 : Int32) (x5 : Int32) (m : dc_M) : Option (Int32 × dc_M) :=
  (if (Int32.toInt (d_X10_isOwn x0 x1 m)) = 0 then some (((-1 : Int32), m)) else (if (Int32.toInt (d_X10_in (Int32.toInt64 x2) (0 : Int64) (3 : Int64) m)) = 0 then some (((-1 : Int32), m)) else (if (Int32.toInt (d_X10_in (Int32.toInt64 x3) (0 : Int64) (2 : Int64) m)) = 0 then some (((-1 : Int32), m)) else (if ¬ (Int32.toInt (d_X10_in (Int32.toInt64 x5) (0 : Int64) (30 : Int64) m)) = 0 then ((d_X10_layRight x0 m).bind (fun q1 => (if ¬ (Int32.toInt q1.1) = 0 then ((d_X10_layAims x0 x1 q1.2).bind (fun q2 => (if (Int32.toInt (lg_cmp ((q2.2.1 x0 47) &&& (q2.2.1 x0 48)) (0 : Int64))) = 0 then (if (Int32.toInt (q2.1 (x0 + 35) (Int32.toNatClampNeg x2))) = (Int32.toInt x3) then (d_X10_judge_l114 x0 x2 x4 x5 (0 : Int64) (0 : Int32) q2) else (if ¬ (Int32.toInt (q2.1 (x0 + 35) (Int32.toNatClampNeg x2))) = (-4) then some (((-13 : Int32), q2)) else some (((-11 : Int32), q2)))) else some (((-2 : Int32), q2))))) else some (((-2 : Int32), q1.2))))) else some (((-1 : Int32), m))))))
set_option maxHeartbeats 8000000 in
theorem k_X10_judge {u : Nat} {N : Nat} {Φ : (Option (Int32 × dc_M)) → Option Value → dc_M → Prop} (x0 : Nat) (x1 : Int32) (x2 : Int32) (x3 : Int32) (x4 : Int32) (x5 : Int32) (m : dc_M) (kR : ∀ (v : Int32) (m : dc_M), Φ (some ((v, m))) (some (.int v)) m)  {lv : ab_L} (f0 : ab_lk lv 0 = some (.ref x0)) (f1 : ab_lk lv 1 = some (.int x1)) (f2 : ab_lk lv 2 = some (.int x2)) (f3 : ab_lk lv 3 = some (.int x3)) (f4 : ab_lk lv 4 = some (.int x4)) (f5 : ab_lk lv 5 = some (.int x5)) : dc_pv u N ab_M_X10_judge 0 lv [] m (Φ (d_X10_judge x0 x1 x2 x3 x4 x5 m)) := by
  refine dc_pv.mono (dc_ok (C := C_X10_judge) (S := S_X10_judge) CO_X10_judge 400 0 [(0, .ref x0), (1, .int x1), (2, .int x2), (3, .int x3), (4, .int x4), (5, .int x5)] lv [] m (dc_sub_cons f0 (dc_sub_cons f1 (dc_sub_cons f2 (dc_sub_cons f3 (dc_sub_cons f4 (dc_sub_cons f5 (dc_sub_nil))))))) ?_) (Nat.le_succ N)
  unfold d_X10_judge
  refine dg_s (pc' := 1) [.ref x0] rfl (fun _ => rfl) rfl ?_
  refine dg_s (pc' := 2) [.int x1, .ref x0] rfl (fun _ => rfl) rfl ?_
  refine dg_s (pc' := 5) [.int (d_X10_isOwn x0 x1 m)] rfl (fun _ => rfl) rfl ?_
  refine dw_if (fun t => Φ t) ((Int32.toInt (d_X10_isOwn x0 x1 m)) = 0) [] 45 8 rfl (fun _ => rfl) (fun c0 => ?_) (fun c0 => ?_)
  · refine dw_g rfl ?_
    refine dg_s (pc' := 46) [.int (-1 : Int32)] rfl (fun _ => rfl) rfl ?_
    exact dw_r (some (.inl (some (.int (-1 : Int32)), m))) rfl (fun _ => rfl) (kR _ _)
  · refine dw_g rfl ?_
    refine dg_s (pc' := 9) [.int x2] rfl (fun _ => rfl) rfl ?_
    refine dg_s (pc' := 10) [.long (Int32.toInt64 x2)] rfl (fun _ => rfl) rfl ?_
    refine dg_s (pc' := 11) [.long (0 : Int64), .long (Int32.toInt64 x2)] rfl (fun _ => rfl) rfl ?_
    refine dg_s (pc' := 14) [.long (3 : Int64), .long (0 : Int64), .long (Int32.toInt64 x2)] rfl (fun _ => rfl) rfl ?_
    refine dg_s (pc' := 17) [.int (d_X10_in (Int32.toInt64 x2) (0 : Int64) (3 : Int64) m)] rfl (fun _ => rfl) rfl ?_
    refine dw_if (fun t => Φ t) ((Int32.toInt (d_X10_in (Int32.toInt64 x2) (0 : Int64) (3 : Int64) m)) = 0) [] 45 20 rfl (fun _ => rfl) (fun c1 => ?_) (fun c1 => ?_)
    · refine dw_g rfl ?_
      refine dg_s (pc' := 46) [.int (-1 : Int32)] rfl (fun _ => rfl) rfl ?_
      exact dw_r (some (.inl (some (.int (-1 : Int32)), m))) rfl (fun _ => rfl) (kR _ _)
    · refine dw_g rfl ?_
      refine dg_s (pc' := 21) [.int x3] rfl (fun _ => rfl) rfl ?_
      refine dg_s (pc' := 22) [.long (Int32.toInt64 x3)] rfl (fun _ => rfl) rfl ?_
      refine dg_s (pc' := 23) [.long (0 : Int64), .long (Int32.toInt64 x3)] rfl (fun _ => rfl) rfl ?_
      refine dg_s (pc' := 26) [.long (2 : Int64), .long (0 : Int64), .long (Int32.toInt64 x3)] rfl (fun _ => rfl) rfl ?_
      refine dg_s (pc' := 29) [.int (d_X10_in (Int32.toInt64 x3) (0 : Int64) (2 : Int64) m)] rfl (fun _ => rfl) rfl ?_
      refine dw_if (fun t => Φ t) ((Int32.toInt (d_X10_in (Int32.toInt64 x3) (0 : Int64) (2 : Int64) m)) = 0) [] 45 32 rfl (fun _ => rfl) (fun c2 => ?_) (fun c2 => ?_)
      · refine dw_g rfl ?_
        refine dg_s (pc' := 46) [.int (-1 : Int32)] rfl (fun _ => rfl) rfl ?_
        exact dw_r (some (.inl (some (.int (-1 : Int32)), m))) rfl (fun _ => rfl) (kR _ _)
      · refine dw_g rfl ?_
        refine dg_s (pc' := 34) [.int x5] rfl (fun _ => rfl) rfl ?_
        refine dg_s (pc' := 35) [.long (Int32.toInt64 x5)] rfl (fun _ => rfl) rfl ?_
        refine dg_s (pc' := 36) [.long (0 : Int64), .long (Int32.toInt64 x5)] rfl (fun _ => rfl) rfl ?_
        refine dg_s (pc' := 39) [.long (30 : Int64), .long (0 : Int64), .long (Int32.toInt64 x5)] rfl (fun _ => rfl) rfl ?_
        refine dg_s (pc' := 42) [.int (d_X10_in (Int32.toInt64 x5) (0 : Int64) (30 : Int64) m)] rfl (fun _ => rfl) rfl ?_
        refine dw_if (fun t => Φ t) (¬ (Int32.toInt (d_X10_in (Int32.toInt64 x5) (0 : Int64) (30 : Int64) m)) = 0) [] 47 45 rfl (fun _ => rfl) (fun c3 => ?_) (fun c3 => ?_)
        · refine dw_g rfl ?_
          refine dg_s (pc' := 48) [.ref x0] rfl (fun _ => rfl) rfl ?_
          refine dw_b (fun t => Φ t) (pc' := 51) (fun q1 => [.int q1.1]) (fun q1 => q1.2) rfl (fun _ => rfl) (fun q1 => ?_)
          refine dw_g rfl ?_
          refine dw_if (fun t => Φ t) (¬ (Int32.toInt q1.1) = 0) [] 57 54 rfl (fun _ => rfl) (fun c4 => ?_) (fun c4 => ?_)
          · refine dw_g rfl ?_
            refine dg_s (pc' := 58) [.ref x0] rfl (fun _ => rfl) rfl ?_
            refine dg_s (pc' := 59) [.int x1, .ref x0] rfl (fun _ => rfl) rfl ?_
            refine dw_b (fun t => Φ t) (pc' := 62) (fun q2 => []) (fun q2 => q2) rfl (fun _ => rfl) (fun q2 => ?_)
            refine dw_g rfl ?_
            refine dg_s (pc' := 63) [.ref x0] rfl (fun _ => rfl) rfl ?_
            refine dg_s (pc' := 66) [.long (q2.2.1 x0 47)] rfl (fun _ => rfl) rfl ?_
            refine dg_s (pc' := 67) [.ref x0, .long (q2.2.1 x0 47)] rfl (fun _ => rfl) rfl ?_
            refine dg_s (pc' := 70) [.long (q2.2.1 x0 48), .long (q2.2.1 x0 47)] rfl (fun _ => rfl) rfl ?_
            refine dg_s (pc' := 71) [.long ((q2.2.1 x0 47) &&& (q2.2.1 x0 48))] rfl (fun _ => rfl) rfl ?_
            refine dg_s (pc' := 72) [.long (0 : Int64), .long ((q2.2.1 x0 47) &&& (q2.2.1 x0 48))] rfl (fun _ => rfl) rfl ?_
            refine dg_s (pc' := 73) [.int (lg_cmp ((q2.2.1 x0 47) &&& (q2.2.1 x0 48)) (0 : Int64))] rfl (fun _ => rfl) rfl ?_
            refine dw_if (fun t => Φ t) ((Int32.toInt (lg_cmp ((q2.2.1 x0 47) &&& (q2.2.1 x0 48)) (0 : Int64))) = 0) [] 79 76 rfl (fun _ => rfl) (fun c5 => ?_) (fun c5 => ?_)
            · refine dw_g rfl ?_
              refine dg_s (pc' := 80) [.ref x0] rfl (fun _ => rfl) rfl ?_
              refine dg_s (pc' := 83) [.ref (x0 + 35)] rfl (fun _ => rfl) rfl ?_
              refine dg_s (pc' := 84) [.int x2, .ref (x0 + 35)] rfl (fun _ => rfl) rfl ?_
              refine dg_s (pc' := 85) [.int (q2.1 (x0 + 35) (Int32.toNatClampNeg x2))] rfl (fun _ => rfl) rfl ?_
              refine dg_s (pc' := 86) [.int x3, .int (q2.1 (x0 + 35) (Int32.toNatClampNeg x2))] rfl (fun _ => rfl) rfl ?_
              refine dw_if (fun t => Φ t) ((Int32.toInt (q2.1 (x0 + 35) (Int32.toNatClampNeg x2))) = (Int32.toInt x3)) [] 108 89 rfl (fun _ => rfl) (fun c6 => ?_) (fun c6 => ?_)
              · refine dw_g rfl ?_
                refine dg_s (pc' := 109) [.long (0 : Int64)] rfl (fun _ => rfl) rfl ?_
                refine dg_L (pc' := 111) [(6, .long (0 : Int64)), (0, .ref x0), (1, .int x1), (2, .int x2), (3, .int x3), (4, .int x4), (5, .int x5)] [] rfl (fun _ => rfl) rfl ?_
                refine dg_s (pc' := 112) [.int (0 : Int32)] rfl (fun _ => rfl) rfl ?_
                refine dw_L (pc' := 114) [(8, .int (0 : Int32)), (6, .long (0 : Int64)), (0, .ref x0), (1, .int x1), (2, .int x2), (3, .int x3), (4, .int x4), (5, .int x5)] [] rfl (fun _ => rfl) ?_
                exact dw_j rfl (fun lv1 hv => k_X10_judge_l114 (Φ := (fun t => Φ t)) x0 x2 x4 x5 q2 (fun _a _b => kR _a _b) N  (0 : Int64) (0 : Int32) lv1 (hv.1 _ rfl) (hv.2.1 _ rfl) (hv.2.2.1 _ rfl) (hv.2.2.2.1 _ rfl) (hv.2.2.2.2.1 _ rfl) (hv.2.2.2.2.2.1 _ rfl))
              · refine dw_g rfl ?_
                refine dg_s (pc' := 90) [.ref x0] rfl (fun _ => rfl) rfl ?_
                refine dg_s (pc' := 93) [.ref (x0 + 35)] rfl (fun _ => rfl) rfl ?_
                refine dg_s (pc' := 94) [.int x2, .ref (x0 + 35)] rfl (fun _ => rfl) rfl ?_
                refine dg_s (pc' := 95) [.int (q2.1 (x0 + 35) (Int32.toNatClampNeg x2))] rfl (fun _ => rfl) rfl ?_
                refine dg_s (pc' := 97) [.int (-4 : Int32), .int (q2.1 (x0 + 35) (Int32.toNatClampNeg x2))] rfl (fun _ => rfl) rfl ?_
                refine dw_if (fun t => Φ t) (¬ (Int32.toInt (q2.1 (x0 + 35) (Int32.toNatClampNeg x2))) = (-4)) [] 105 100 rfl (fun _ => rfl) (fun c7 => ?_) (fun c7 => ?_)
                · refine dw_g rfl ?_
                  refine dg_s (pc' := 107) [.int (-13 : Int32)] rfl (fun _ => rfl) rfl ?_
                  exact dw_r (some (.inl (some (.int (-13 : Int32)), q2))) rfl (fun _ => rfl) (kR _ _)
                · refine dw_g rfl ?_
                  refine dg_s (pc' := 102) [.int (-11 : Int32)] rfl (fun _ => rfl) rfl ?_
                  refine dg_s (pc' := 107) [.int (-11 : Int32)] rfl (fun _ => rfl) rfl ?_
                  exact dw_r (some (.inl (some (.int (-11 : Int32)), q2))) rfl (fun _ => rfl) (kR _ _)
            · refine dw_g rfl ?_
              refine dg_s (pc' := 78) [.int (-2 : Int32)] rfl (fun _ => rfl) rfl ?_
              exact dw_r (some (.inl (some (.int (-2 : Int32)), q2))) rfl (fun _ => rfl) (kR _ _)
          · refine dw_g rfl ?_
            refine dg_s (pc' := 56) [.int (-2 : Int32)] rfl (fun _ => rfl) rfl ?_
            exact dw_r (some (.inl (some (.int (-2 : Int32)), q1.2))) rfl (fun _ => rfl) (kR _ _)
        · refine dw_g rfl ?_
          refine dg_s (pc' := 46) [.int (-1 : Int32)] rfl (fun _ => rfl) rfl ?_
          exact dw_r (some (.inl (some (.int (-1 : Int32)), m))) rfl (fun _ => rfl) (kR _ _)
noncomputable def H_X10_judge : dc_H := fun As m k => match As with
  | [.ref x0, .int x1, .int x2, .int x3, .int x4, .int x5] => (d_X10_judge x0 x1 x2 x3 x4 x5 m).bind (fun q => k (some (.int q.1)) q.2)
  | _ => dc_kz
theorem H_X10_judge_ok {u : Nat} : dc_cok u 201 H_X10_judge := fun M' hG N As m k P hz hP => by
  obtain rfl : ab_M_X10_judge = M' := Option.some.inj hG
  unfold H_X10_judge at hP
  split at hP
  · rename_i x0 x1 x2 x3 x4 x5
    exact dc_pv.imp (k_X10_judge (Φ := fun (t : Option (Int32 × dc_M)) r m' => P (t.bind (fun q => k (some (.int q.1)) q.2)) → P (k r m')) x0 x1 x2 x3 x4 x5 m (fun _ _ h => h) rfl rfl rfl rfl rfl rfl) (fun r m' h => h hP)
  · exact absurd hP hz
