/-! ===== methods as functions (written by a program) ===== -/
noncomputable def C_X9_aim : List (Nat × dc_H) := [(25, H_X3_hasWire), (137, H_X9_gatherSums), (135, H_X9_isRight)]
theorem CO_X9_aim {u : Nat} : dc_CO u C_X9_aim := dc_CO_cons H_X3_hasWire_ok (dc_CO_cons H_X9_gatherSums_ok (dc_CO_cons H_X9_isRight_ok (dc_CO_nil)))
def S_X9_aim : List (Nat × List Nat) := [(67, [0, 1, 2]), (91, [3]), (105, [3, 4])]
noncomputable def d_X9_aim_b105 (x3 : Int32) (x4 : Int32) (m : dc_M) : Option (Int32 × dc_M) :=
  (if (Int32.toInt x3) = 0 then (if (Int32.toInt x4) = 0 then some (((-4 : Int32), m)) else some (((0 : Int32), m))) else some (((1 : Int32), m)))
set_option maxHeartbeats 8000000 in
theorem k_X9_aim_b105 {u : Nat} {N : Nat} {Φ : (Option (Int32 × dc_M)) → Option Value → dc_M → Prop} (x3 : Int32) (x4 : Int32) (m : dc_M) (kR : ∀ (v : Int32) (m : dc_M), Φ (some ((v, m))) (some (.int v)) m)  {lv : ab_L} (f3 : ab_lk lv 3 = some (.int x3)) (f4 : ab_lk lv 4 = some (.int x4)) : dc_pv u N ab_M_X9_aim 105 lv [] m (Φ (d_X9_aim_b105 x3 x4 m)) := by
  refine dc_pv.mono (dc_ok (C := C_X9_aim) (S := S_X9_aim) CO_X9_aim 400 105 [(3, .int x3), (4, .int x4)] lv [] m (dc_sub_cons f3 (dc_sub_cons f4 (dc_sub_nil))) ?_) (Nat.le_succ N)
  unfold d_X9_aim_b105
  refine dg_s (pc' := 106) [.int x3] rfl (fun _ => rfl) rfl ?_
  refine dw_if (fun t => Φ t) ((Int32.toInt x3) = 0) [] 113 109 rfl (fun _ => rfl) (fun c0 => ?_) (fun c0 => ?_)
  · refine dw_g rfl ?_
    refine dg_s (pc' := 115) [.int x4] rfl (fun _ => rfl) rfl ?_
    refine dw_if (fun t => Φ t) ((Int32.toInt x4) = 0) [] 122 118 rfl (fun _ => rfl) (fun c1 => ?_) (fun c1 => ?_)
    · refine dw_g rfl ?_
      refine dg_s (pc' := 124) [.int (-4 : Int32)] rfl (fun _ => rfl) rfl ?_
      exact dw_r (some (.inl (some (.int (-4 : Int32)), m))) rfl (fun _ => rfl) (kR _ _)
    · refine dw_g rfl ?_
      refine dg_s (pc' := 119) [.int (0 : Int32)] rfl (fun _ => rfl) rfl ?_
      refine dg_s (pc' := 124) [.int (0 : Int32)] rfl (fun _ => rfl) rfl ?_
      exact dw_r (some (.inl (some (.int (0 : Int32)), m))) rfl (fun _ => rfl) (kR _ _)
  · refine dw_g rfl ?_
    refine dg_s (pc' := 110) [.int (1 : Int32)] rfl (fun _ => rfl) rfl ?_
    refine dg_s (pc' := 124) [.int (1 : Int32)] rfl (fun _ => rfl) rfl ?_
    exact dw_r (some (.inl (some (.int (1 : Int32)), m))) rfl (fun _ => rfl) (kR _ _)
noncomputable def d_X9_aim_b91 (x3 : Int32) (s0 : Int32) (m : dc_M) : Option (Int32 × dc_M) :=
  (if (Int32.toInt x3) = 0 then (d_X9_aim_b105 x3 s0 m) else (if (Int32.toInt s0) = 0 then (d_X9_aim_b105 x3 s0 m) else some (((-5 : Int32), m))))
set_option maxHeartbeats 8000000 in
theorem k_X9_aim_b91 {u : Nat} {N : Nat} {Φ : (Option (Int32 × dc_M)) → Option Value → dc_M → Prop} (x3 : Int32) (s0 : Int32) (m : dc_M) (kR : ∀ (v : Int32) (m : dc_M), Φ (some ((v, m))) (some (.int v)) m)  {lv : ab_L} (f3 : ab_lk lv 3 = some (.int x3)) : dc_pv u N ab_M_X9_aim 91 lv [.int s0] m (Φ (d_X9_aim_b91 x3 s0 m)) := by
  refine dc_pv.mono (dc_ok (C := C_X9_aim) (S := S_X9_aim) CO_X9_aim 400 91 [(3, .int x3)] lv [.int s0] m (dc_sub_cons f3 (dc_sub_nil)) ?_) (Nat.le_succ N)
  unfold d_X9_aim_b91
  refine dg_L (pc' := 93) [(4, .int s0), (3, .int x3)] [] rfl (fun _ => rfl) rfl ?_
  refine dg_s (pc' := 94) [.int x3] rfl (fun _ => rfl) rfl ?_
  refine dw_if (fun t => Φ t) ((Int32.toInt x3) = 0) [] 105 97 rfl (fun _ => rfl) (fun c0 => ?_) (fun c0 => ?_)
  · exact dw_j rfl (fun lv1 hv => k_X9_aim_b105 (Φ := (fun t => Φ t)) x3 s0 m (fun _a _b => kR _a _b)  (hv.1 _ rfl) (hv.2.1 _ rfl))
  · refine dw_g rfl ?_
    refine dg_s (pc' := 99) [.int s0] rfl (fun _ => rfl) rfl ?_
    refine dw_if (fun t => Φ t) ((Int32.toInt s0) = 0) [] 105 102 rfl (fun _ => rfl) (fun c1 => ?_) (fun c1 => ?_)
    · exact dw_j rfl (fun lv1 hv => k_X9_aim_b105 (Φ := (fun t => Φ t)) x3 s0 m (fun _a _b => kR _a _b)  (hv.1 _ rfl) (hv.2.1 _ rfl))
    · refine dw_g rfl ?_
      refine dg_s (pc' := 104) [.int (-5 : Int32)] rfl (fun _ => rfl) rfl ?_
      exact dw_r (some (.inl (some (.int (-5 : Int32)), m))) rfl (fun _ => rfl) (kR _ _)
noncomputable def d_X9_aim_b67 (x0 : Nat) (x1 : Int32) (x2 : Int32) (s0 : Int32) (m : dc_M) : Option (Int32 × dc_M) :=
  (if (Int32.toInt (lg_cmp (((m.2.1 ((x0 + 14) + 2) (Int32.toNatClampNeg x1)) >>> (Int32.toInt64 x2 &&& 63)) &&& (1 : Int64)) (0 : Int64))) = 0 then (d_X9_aim_b91 s0 (0 : Int32) m) else (d_X9_aim_b91 s0 (1 : Int32) m))
set_option maxHeartbeats 8000000 in
theorem k_X9_aim_b67 {u : Nat} {N : Nat} {Φ : (Option (Int32 × dc_M)) → Option Value → dc_M → Prop} (x0 : Nat) (x1 : Int32) (x2 : Int32) (s0 : Int32) (m : dc_M) (kR : ∀ (v : Int32) (m : dc_M), Φ (some ((v, m))) (some (.int v)) m)  {lv : ab_L} (f0 : ab_lk lv 0 = some (.ref x0)) (f1 : ab_lk lv 1 = some (.int x1)) (f2 : ab_lk lv 2 = some (.int x2)) : dc_pv u N ab_M_X9_aim 67 lv [.int s0] m (Φ (d_X9_aim_b67 x0 x1 x2 s0 m)) := by
  refine dc_pv.mono (dc_ok (C := C_X9_aim) (S := S_X9_aim) CO_X9_aim 400 67 [(0, .ref x0), (1, .int x1), (2, .int x2)] lv [.int s0] m (dc_sub_cons f0 (dc_sub_cons f1 (dc_sub_cons f2 (dc_sub_nil)))) ?_) (Nat.le_succ N)
  unfold d_X9_aim_b67
  refine dg_L (pc' := 68) [(3, .int s0), (0, .ref x0), (1, .int x1), (2, .int x2)] [] rfl (fun _ => rfl) rfl ?_
  refine dg_s (pc' := 69) [.ref x0] rfl (fun _ => rfl) rfl ?_
  refine dg_s (pc' := 72) [.ref (x0 + 14)] rfl (fun _ => rfl) rfl ?_
  refine dg_s (pc' := 75) [.ref ((x0 + 14) + 2)] rfl (fun _ => rfl) rfl ?_
  refine dg_s (pc' := 76) [.int x1, .ref ((x0 + 14) + 2)] rfl (fun _ => rfl) rfl ?_
  refine dg_s (pc' := 77) [.long (m.2.1 ((x0 + 14) + 2) (Int32.toNatClampNeg x1))] rfl (fun _ => rfl) rfl ?_
  refine dg_s (pc' := 78) [.int x2, .long (m.2.1 ((x0 + 14) + 2) (Int32.toNatClampNeg x1))] rfl (fun _ => rfl) rfl ?_
  refine dg_s (pc' := 79) [.long ((m.2.1 ((x0 + 14) + 2) (Int32.toNatClampNeg x1)) >>> (Int32.toInt64 x2 &&& 63))] rfl (fun _ => rfl) rfl ?_
  refine dg_s (pc' := 80) [.long (1 : Int64), .long ((m.2.1 ((x0 + 14) + 2) (Int32.toNatClampNeg x1)) >>> (Int32.toInt64 x2 &&& 63))] rfl (fun _ => rfl) rfl ?_
  refine dg_s (pc' := 81) [.long (((m.2.1 ((x0 + 14) + 2) (Int32.toNatClampNeg x1)) >>> (Int32.toInt64 x2 &&& 63)) &&& (1 : Int64))] rfl (fun _ => rfl) rfl ?_
  refine dg_s (pc' := 82) [.long (0 : Int64), .long (((m.2.1 ((x0 + 14) + 2) (Int32.toNatClampNeg x1)) >>> (Int32.toInt64 x2 &&& 63)) &&& (1 : Int64))] rfl (fun _ => rfl) rfl ?_
  refine dg_s (pc' := 83) [.int (lg_cmp (((m.2.1 ((x0 + 14) + 2) (Int32.toNatClampNeg x1)) >>> (Int32.toInt64 x2 &&& 63)) &&& (1 : Int64)) (0 : Int64))] rfl (fun _ => rfl) rfl ?_
  refine dw_if (fun t => Φ t) ((Int32.toInt (lg_cmp (((m.2.1 ((x0 + 14) + 2) (Int32.toNatClampNeg x1)) >>> (Int32.toInt64 x2 &&& 63)) &&& (1 : Int64)) (0 : Int64))) = 0) [] 90 86 rfl (fun _ => rfl) (fun c0 => ?_) (fun c0 => ?_)
  · refine dw_g rfl ?_
    refine dw_s (pc' := 91) [.int (0 : Int32)] rfl (fun _ => rfl) ?_
    exact dw_j rfl (fun lv1 hv => k_X9_aim_b91 (Φ := (fun t => Φ t)) s0 (0 : Int32) m (fun _a _b => kR _a _b)  (hv.1 _ rfl))
  · refine dw_g rfl ?_
    refine dg_s (pc' := 87) [.int (1 : Int32)] rfl (fun _ => rfl) rfl ?_
    refine dw_s (pc' := 91) [.int (1 : Int32)] rfl (fun _ => rfl) ?_
    exact dw_j rfl (fun lv1 hv => k_X9_aim_b91 (Φ := (fun t => Φ t)) s0 (1 : Int32) m (fun _a _b => kR _a _b)  (hv.1 _ rfl))
noncomputable def d_X9_aim (x0 : Nat) (x1 : Int32) (x2 : Int32) (m : dc_M) : Option (Int32 × dc_M) :=
  (if (Int32.toInt (d_X3_hasWire (m.2.2.1 x0 7) x1 m)) = 0 then some (((-1 : Int32), m)) else (if (Int32.toInt x2) < 0 then some (((-1 : Int32), m)) else (if (Int32.toInt x2) < (Int32.toInt ((1 : Int32) <<< ((m.1 (m.2.2.1 x0 7) 0) &&& 31))) then ((d_X9_isRight x0 m).bind (fun q1 => (if ¬ (Int32.toInt q1.1) = 0 then ((d_X9_gatherSums x0 q1.2).bind (fun q2 => (if (Int32.toInt (lg_cmp (((q2.2.1 ((x0 + 14) + 1) (Int32.toNatClampNeg x1)) >>> (Int32.toInt64 x2 &&& 63)) &&& (1 : Int64)) (0 : Int64))) = 0 then (d_X9_aim_b67 x0 x1 x2 (0 : Int32) q2) else (d_X9_aim_b67 x0 x1 x2 (1 : Int32) q2)))) else some (((-2 : Int32), q1.2))))) else some (((-1 : Int32), m)))))
set_option maxHeartbeats 8000000 in
theorem k_X9_aim {u : Nat} {N : Nat} {Φ : (Option (Int32 × dc_M)) → Option Value → dc_M → Prop} (x0 : Nat) (x1 : Int32) (x2 : Int32) (m : dc_M) (kR : ∀ (v : Int32) (m : dc_M), Φ (some ((v, m))) (some (.int v)) m)  {lv : ab_L} (f0 : ab_lk lv 0 = some (.ref x0)) (f1 : ab_lk lv 1 = some (.int x1)) (f2 : ab_lk lv 2 = some (.int x2)) : dc_pv u N ab_M_X9_aim 0 lv [] m (Φ (d_X9_aim x0 x1 x2 m)) := by
  refine dc_pv.mono (dc_ok (C := C_X9_aim) (S := S_X9_aim) CO_X9_aim 400 0 [(0, .ref x0), (1, .int x1), (2, .int x2)] lv [] m (dc_sub_cons f0 (dc_sub_cons f1 (dc_sub_cons f2 (dc_sub_nil)))) ?_) (Nat.le_succ N)
  unfold d_X9_aim
  refine dg_s (pc' := 1) [.ref x0] rfl (fun _ => rfl) rfl ?_
  refine dg_s (pc' := 4) [.ref (m.2.2.1 x0 7)] rfl (fun _ => rfl) rfl ?_
  refine dg_s (pc' := 5) [.int x1, .ref (m.2.2.1 x0 7)] rfl (fun _ => rfl) rfl ?_
  refine dg_s (pc' := 8) [.int (d_X3_hasWire (m.2.2.1 x0 7) x1 m)] rfl (fun _ => rfl) rfl ?_
  refine dw_if (fun t => Φ t) ((Int32.toInt (d_X3_hasWire (m.2.2.1 x0 7) x1 m)) = 0) [] 28 11 rfl (fun _ => rfl) (fun c0 => ?_) (fun c0 => ?_)
  · refine dw_g rfl ?_
    refine dg_s (pc' := 29) [.int (-1 : Int32)] rfl (fun _ => rfl) rfl ?_
    exact dw_r (some (.inl (some (.int (-1 : Int32)), m))) rfl (fun _ => rfl) (kR _ _)
  · refine dw_g rfl ?_
    refine dg_s (pc' := 12) [.int x2] rfl (fun _ => rfl) rfl ?_
    refine dw_if (fun t => Φ t) ((Int32.toInt x2) < 0) [] 28 15 rfl (fun _ => rfl) (fun c1 => ?_) (fun c1 => ?_)
    · refine dw_g rfl ?_
      refine dg_s (pc' := 29) [.int (-1 : Int32)] rfl (fun _ => rfl) rfl ?_
      exact dw_r (some (.inl (some (.int (-1 : Int32)), m))) rfl (fun _ => rfl) (kR _ _)
    · refine dw_g rfl ?_
      refine dg_s (pc' := 16) [.int x2] rfl (fun _ => rfl) rfl ?_
      refine dg_s (pc' := 17) [.int (1 : Int32), .int x2] rfl (fun _ => rfl) rfl ?_
      refine dg_s (pc' := 18) [.ref x0, .int (1 : Int32), .int x2] rfl (fun _ => rfl) rfl ?_
      refine dg_s (pc' := 21) [.ref (m.2.2.1 x0 7), .int (1 : Int32), .int x2] rfl (fun _ => rfl) rfl ?_
      refine dg_s (pc' := 24) [.int (m.1 (m.2.2.1 x0 7) 0), .int (1 : Int32), .int x2] rfl (fun _ => rfl) rfl ?_
      refine dg_s (pc' := 25) [.int ((1 : Int32) <<< ((m.1 (m.2.2.1 x0 7) 0) &&& 31)), .int x2] rfl (fun _ => rfl) rfl ?_
      refine dw_if (fun t => Φ t) ((Int32.toInt x2) < (Int32.toInt ((1 : Int32) <<< ((m.1 (m.2.2.1 x0 7) 0) &&& 31)))) [] 30 28 rfl (fun _ => rfl) (fun c2 => ?_) (fun c2 => ?_)
      · refine dw_g rfl ?_
        refine dg_s (pc' := 31) [.ref x0] rfl (fun _ => rfl) rfl ?_
        refine dw_b (fun t => Φ t) (pc' := 34) (fun q1 => [.int q1.1]) (fun q1 => q1.2) rfl (fun _ => rfl) (fun q1 => ?_)
        refine dw_g rfl ?_
        refine dw_if (fun t => Φ t) (¬ (Int32.toInt q1.1) = 0) [] 40 37 rfl (fun _ => rfl) (fun c3 => ?_) (fun c3 => ?_)
        · refine dw_g rfl ?_
          refine dg_s (pc' := 41) [.ref x0] rfl (fun _ => rfl) rfl ?_
          refine dw_b (fun t => Φ t) (pc' := 44) (fun q2 => []) (fun q2 => q2) rfl (fun _ => rfl) (fun q2 => ?_)
          refine dw_g rfl ?_
          refine dg_s (pc' := 45) [.ref x0] rfl (fun _ => rfl) rfl ?_
          refine dg_s (pc' := 48) [.ref (x0 + 14)] rfl (fun _ => rfl) rfl ?_
          refine dg_s (pc' := 51) [.ref ((x0 + 14) + 1)] rfl (fun _ => rfl) rfl ?_
          refine dg_s (pc' := 52) [.int x1, .ref ((x0 + 14) + 1)] rfl (fun _ => rfl) rfl ?_
          refine dg_s (pc' := 53) [.long (q2.2.1 ((x0 + 14) + 1) (Int32.toNatClampNeg x1))] rfl (fun _ => rfl) rfl ?_
          refine dg_s (pc' := 54) [.int x2, .long (q2.2.1 ((x0 + 14) + 1) (Int32.toNatClampNeg x1))] rfl (fun _ => rfl) rfl ?_
          refine dg_s (pc' := 55) [.long ((q2.2.1 ((x0 + 14) + 1) (Int32.toNatClampNeg x1)) >>> (Int32.toInt64 x2 &&& 63))] rfl (fun _ => rfl) rfl ?_
          refine dg_s (pc' := 56) [.long (1 : Int64), .long ((q2.2.1 ((x0 + 14) + 1) (Int32.toNatClampNeg x1)) >>> (Int32.toInt64 x2 &&& 63))] rfl (fun _ => rfl) rfl ?_
          refine dg_s (pc' := 57) [.long (((q2.2.1 ((x0 + 14) + 1) (Int32.toNatClampNeg x1)) >>> (Int32.toInt64 x2 &&& 63)) &&& (1 : Int64))] rfl (fun _ => rfl) rfl ?_
          refine dg_s (pc' := 58) [.long (0 : Int64), .long (((q2.2.1 ((x0 + 14) + 1) (Int32.toNatClampNeg x1)) >>> (Int32.toInt64 x2 &&& 63)) &&& (1 : Int64))] rfl (fun _ => rfl) rfl ?_
          refine dg_s (pc' := 59) [.int (lg_cmp (((q2.2.1 ((x0 + 14) + 1) (Int32.toNatClampNeg x1)) >>> (Int32.toInt64 x2 &&& 63)) &&& (1 : Int64)) (0 : Int64))] rfl (fun _ => rfl) rfl ?_
          refine dw_if (fun t => Φ t) ((Int32.toInt (lg_cmp (((q2.2.1 ((x0 + 14) + 1) (Int32.toNatClampNeg x1)) >>> (Int32.toInt64 x2 &&& 63)) &&& (1 : Int64)) (0 : Int64))) = 0) [] 66 62 rfl (fun _ => rfl) (fun c4 => ?_) (fun c4 => ?_)
          · refine dw_g rfl ?_
            refine dw_s (pc' := 67) [.int (0 : Int32)] rfl (fun _ => rfl) ?_
            exact dw_j rfl (fun lv1 hv => k_X9_aim_b67 (Φ := (fun t => Φ t)) x0 x1 x2 (0 : Int32) q2 (fun _a _b => kR _a _b)  (hv.1 _ rfl) (hv.2.1 _ rfl) (hv.2.2.1 _ rfl))
          · refine dw_g rfl ?_
            refine dg_s (pc' := 63) [.int (1 : Int32)] rfl (fun _ => rfl) rfl ?_
            refine dw_s (pc' := 67) [.int (1 : Int32)] rfl (fun _ => rfl) ?_
            exact dw_j rfl (fun lv1 hv => k_X9_aim_b67 (Φ := (fun t => Φ t)) x0 x1 x2 (1 : Int32) q2 (fun _a _b => kR _a _b)  (hv.1 _ rfl) (hv.2.1 _ rfl) (hv.2.2.1 _ rfl))
        · refine dw_g rfl ?_
          refine dg_s (pc' := 39) [.int (-2 : Int32)] rfl (fun _ => rfl) rfl ?_
          exact dw_r (some (.inl (some (.int (-2 : Int32)), q1.2))) rfl (fun _ => rfl) (kR _ _)
      · refine dw_g rfl ?_
        refine dg_s (pc' := 29) [.int (-1 : Int32)] rfl (fun _ => rfl) rfl ?_
        exact dw_r (some (.inl (some (.int (-1 : Int32)), m))) rfl (fun _ => rfl) (kR _ _)
noncomputable def H_X9_aim : dc_H := fun As m k => match As with
  | [.ref x0, .int x1, .int x2] => (d_X9_aim x0 x1 x2 m).bind (fun q => k (some (.int q.1)) q.2)
  | _ => dc_kz
theorem H_X9_aim_ok {u : Nat} : dc_cok u 114 H_X9_aim := fun M' hG N As m k P hz hP => by
  obtain rfl : ab_M_X9_aim = M' := Option.some.inj hG
  unfold H_X9_aim at hP
  split at hP
  · rename_i x0 x1 x2
    exact dc_pv.imp (k_X9_aim (Φ := fun (t : Option (Int32 × dc_M)) r m' => P (t.bind (fun q => k (some (.int q.1)) q.2)) → P (k r m')) x0 x1 x2 m (fun _ _ h => h) rfl rfl rfl) (fun r m' h => h hP)
  · exact absurd hP hz
noncomputable def C_X9_canBeMade : List (Nat × dc_H) := [(94, H_X8_hasUnlikeAims), (137, H_X9_gatherSums), (135, H_X9_isRight)]
theorem CO_X9_canBeMade {u : Nat} : dc_CO u C_X9_canBeMade := dc_CO_cons H_X8_hasUnlikeAims_ok (dc_CO_cons H_X9_gatherSums_ok (dc_CO_cons H_X9_isRight_ok (dc_CO_nil)))
def S_X9_canBeMade : List (Nat × List Nat) := []
noncomputable def d_X9_canBeMade (x0 : Nat) (x1 : Int32) (m : dc_M) : Option (Int32 × dc_M) :=
  ((d_X9_isRight x0 m).bind (fun q1 => (if ¬ (Int32.toInt q1.1) = 0 then ((d_X9_gatherSums x0 q1.2).bind (fun q2 => (if ¬ (Int32.toInt (d_X8_hasUnlikeAims (x0 + 14) x1 q2)) = 0 then some (((0 : Int32), q2)) else some (((1 : Int32), q2))))) else some (((0 : Int32), q1.2)))))
set_option maxHeartbeats 8000000 in
theorem k_X9_canBeMade {u : Nat} {N : Nat} {Φ : (Option (Int32 × dc_M)) → Option Value → dc_M → Prop} (x0 : Nat) (x1 : Int32) (m : dc_M) (kR : ∀ (v : Int32) (m : dc_M), Φ (some ((v, m))) (some (.int v)) m)  {lv : ab_L} (f0 : ab_lk lv 0 = some (.ref x0)) (f1 : ab_lk lv 1 = some (.int x1)) : dc_pv u N ab_M_X9_canBeMade 0 lv [] m (Φ (d_X9_canBeMade x0 x1 m)) := by
  refine dc_pv.mono (dc_ok (C := C_X9_canBeMade) (S := S_X9_canBeMade) CO_X9_canBeMade 400 0 [(0, .ref x0), (1, .int x1)] lv [] m (dc_sub_cons f0 (dc_sub_cons f1 (dc_sub_nil))) ?_) (Nat.le_succ N)
  unfold d_X9_canBeMade
  refine dg_s (pc' := 1) [.ref x0] rfl (fun _ => rfl) rfl ?_
  refine dw_b (fun t => Φ t) (pc' := 4) (fun q1 => [.int q1.1]) (fun q1 => q1.2) rfl (fun _ => rfl) (fun q1 => ?_)
  refine dw_g rfl ?_
  refine dw_if (fun t => Φ t) (¬ (Int32.toInt q1.1) = 0) [] 9 7 rfl (fun _ => rfl) (fun c0 => ?_) (fun c0 => ?_)
  · refine dw_g rfl ?_
    refine dg_s (pc' := 10) [.ref x0] rfl (fun _ => rfl) rfl ?_
    refine dw_b (fun t => Φ t) (pc' := 13) (fun q2 => []) (fun q2 => q2) rfl (fun _ => rfl) (fun q2 => ?_)
    refine dw_g rfl ?_
    refine dg_s (pc' := 14) [.ref x0] rfl (fun _ => rfl) rfl ?_
    refine dg_s (pc' := 17) [.ref (x0 + 14)] rfl (fun _ => rfl) rfl ?_
    refine dg_s (pc' := 18) [.int x1, .ref (x0 + 14)] rfl (fun _ => rfl) rfl ?_
    refine dg_s (pc' := 21) [.int (d_X8_hasUnlikeAims (x0 + 14) x1 q2)] rfl (fun _ => rfl) rfl ?_
    refine dw_if (fun t => Φ t) (¬ (Int32.toInt (d_X8_hasUnlikeAims (x0 + 14) x1 q2)) = 0) [] 28 24 rfl (fun _ => rfl) (fun c1 => ?_) (fun c1 => ?_)
    · refine dw_g rfl ?_
      refine dg_s (pc' := 29) [.int (0 : Int32)] rfl (fun _ => rfl) rfl ?_
      exact dw_r (some (.inl (some (.int (0 : Int32)), q2))) rfl (fun _ => rfl) (kR _ _)
    · refine dw_g rfl ?_
      refine dg_s (pc' := 25) [.int (1 : Int32)] rfl (fun _ => rfl) rfl ?_
      refine dg_s (pc' := 29) [.int (1 : Int32)] rfl (fun _ => rfl) rfl ?_
      exact dw_r (some (.inl (some (.int (1 : Int32)), q2))) rfl (fun _ => rfl) (kR _ _)
  · refine dw_g rfl ?_
    refine dg_s (pc' := 8) [.int (0 : Int32)] rfl (fun _ => rfl) rfl ?_
    exact dw_r (some (.inl (some (.int (0 : Int32)), q1.2))) rfl (fun _ => rfl) (kR _ _)
noncomputable def H_X9_canBeMade : dc_H := fun As m k => match As with
  | [.ref x0, .int x1] => (d_X9_canBeMade x0 x1 m).bind (fun q => k (some (.int q.1)) q.2)
  | _ => dc_kz
theorem H_X9_canBeMade_ok {u : Nat} : dc_cok u 138 H_X9_canBeMade := fun M' hG N As m k P hz hP => by
  obtain rfl : ab_M_X9_canBeMade = M' := Option.some.inj hG
  unfold H_X9_canBeMade at hP
  split at hP
  · rename_i x0 x1
    exact dc_pv.imp (k_X9_canBeMade (Φ := fun (t : Option (Int32 × dc_M)) r m' => P (t.bind (fun q => k (some (.int q.1)) q.2)) → P (k r m')) x0 x1 m (fun _ _ h => h) rfl rfl) (fun r m' h => h hP)
  · exact absurd hP hz
def C_X9_isLane : List (Nat × dc_H) := []
theorem CO_X9_isLane {u : Nat} : dc_CO u C_X9_isLane := dc_CO_nil
def S_X9_isLane : List (Nat × List Nat) := []
def d_X9_isLane (x0 : Int32) (m : dc_M) : Int32 :=
  (if (Int32.toInt x0) < 0 then (0 : Int32) else (if 3 ≤ (Int32.toInt x0) then (0 : Int32) else (1 : Int32)))
set_option maxHeartbeats 8000000 in
theorem k_X9_isLane {u : Nat} {N : Nat} {Φ : Int32 → Option Value → dc_M → Prop} (x0 : Int32) (m : dc_M) (kR : ∀ (v : Int32), Φ (v) (some (.int v)) m)  {lv : ab_L} (f0 : ab_lk lv 0 = some (.int x0)) : dc_pv u N ab_M_X9_isLane 0 lv [] m (Φ (d_X9_isLane x0 m)) := by
  refine dc_pv.mono (dc_ok (C := C_X9_isLane) (S := S_X9_isLane) CO_X9_isLane 400 0 [(0, .int x0)] lv [] m (dc_sub_cons f0 (dc_sub_nil)) ?_) (Nat.le_succ N)
  unfold d_X9_isLane
  refine dg_s (pc' := 1) [.int x0] rfl (fun _ => rfl) rfl ?_
  refine dw_if (fun t => Φ t) ((Int32.toInt x0) < 0) [] 13 4 rfl (fun _ => rfl) (fun c0 => ?_) (fun c0 => ?_)
  · refine dw_g rfl ?_
    refine dg_s (pc' := 14) [.int (0 : Int32)] rfl (fun _ => rfl) rfl ?_
    exact dw_r (some (.inl (some (.int (0 : Int32)), m))) rfl (fun _ => rfl) (kR _)
  · refine dw_g rfl ?_
    refine dg_s (pc' := 5) [.int x0] rfl (fun _ => rfl) rfl ?_
    refine dg_s (pc' := 6) [.int (3 : Int32), .int x0] rfl (fun _ => rfl) rfl ?_
    refine dw_if (fun t => Φ t) (3 ≤ (Int32.toInt x0)) [] 13 9 rfl (fun _ => rfl) (fun c1 => ?_) (fun c1 => ?_)
    · refine dw_g rfl ?_
      refine dg_s (pc' := 14) [.int (0 : Int32)] rfl (fun _ => rfl) rfl ?_
      exact dw_r (some (.inl (some (.int (0 : Int32)), m))) rfl (fun _ => rfl) (kR _)
    · refine dw_g rfl ?_
      refine dg_s (pc' := 10) [.int (1 : Int32)] rfl (fun _ => rfl) rfl ?_
      refine dg_s (pc' := 14) [.int (1 : Int32)] rfl (fun _ => rfl) rfl ?_
      exact dw_r (some (.inl (some (.int (1 : Int32)), m))) rfl (fun _ => rfl) (kR _)
def H_X9_isLane : dc_H := fun As m k => match As with
  | [.int x0] => k (some (.int (d_X9_isLane x0 m))) m
  | _ => dc_kz
theorem H_X9_isLane_ok {u : Nat} : dc_cok u 132 H_X9_isLane := fun M' hG N As m k P hz hP => by
  obtain rfl : ab_M_X9_isLane = M' := Option.some.inj hG
  unfold H_X9_isLane at hP
  split at hP
  · rename_i x0
    exact dc_pv.imp (k_X9_isLane (Φ := fun (t : Int32) r m' => P (k (some (.int t)) m) → P (k r m')) x0 m (fun _  h => h) rfl) (fun r m' h => h hP)
  · exact absurd hP hz
def C_X9_isSheet : List (Nat × dc_H) := []
theorem CO_X9_isSheet {u : Nat} : dc_CO u C_X9_isSheet := dc_CO_nil
def S_X9_isSheet : List (Nat × List Nat) := []
def d_X9_isSheet (x0 : Int32) (m : dc_M) : Int32 :=
  (if (Int32.toInt x0) < 0 then (0 : Int32) else (if 4 ≤ (Int32.toInt x0) then (0 : Int32) else (1 : Int32)))
set_option maxHeartbeats 8000000 in
theorem k_X9_isSheet {u : Nat} {N : Nat} {Φ : Int32 → Option Value → dc_M → Prop} (x0 : Int32) (m : dc_M) (kR : ∀ (v : Int32), Φ (v) (some (.int v)) m)  {lv : ab_L} (f0 : ab_lk lv 0 = some (.int x0)) : dc_pv u N ab_M_X9_isSheet 0 lv [] m (Φ (d_X9_isSheet x0 m)) := by
  refine dc_pv.mono (dc_ok (C := C_X9_isSheet) (S := S_X9_isSheet) CO_X9_isSheet 400 0 [(0, .int x0)] lv [] m (dc_sub_cons f0 (dc_sub_nil)) ?_) (Nat.le_succ N)
  unfold d_X9_isSheet
  refine dg_s (pc' := 1) [.int x0] rfl (fun _ => rfl) rfl ?_
  refine dw_if (fun t => Φ t) ((Int32.toInt x0) < 0) [] 13 4 rfl (fun _ => rfl) (fun c0 => ?_) (fun c0 => ?_)
  · refine dw_g rfl ?_
    refine dg_s (pc' := 14) [.int (0 : Int32)] rfl (fun _ => rfl) rfl ?_
    exact dw_r (some (.inl (some (.int (0 : Int32)), m))) rfl (fun _ => rfl) (kR _)
  · refine dw_g rfl ?_
    refine dg_s (pc' := 5) [.int x0] rfl (fun _ => rfl) rfl ?_
    refine dg_s (pc' := 6) [.int (4 : Int32), .int x0] rfl (fun _ => rfl) rfl ?_
    refine dw_if (fun t => Φ t) (4 ≤ (Int32.toInt x0)) [] 13 9 rfl (fun _ => rfl) (fun c1 => ?_) (fun c1 => ?_)
    · refine dw_g rfl ?_
      refine dg_s (pc' := 14) [.int (0 : Int32)] rfl (fun _ => rfl) rfl ?_
      exact dw_r (some (.inl (some (.int (0 : Int32)), m))) rfl (fun _ => rfl) (kR _)
    · refine dw_g rfl ?_
      refine dg_s (pc' := 10) [.int (1 : Int32)] rfl (fun _ => rfl) rfl ?_
      refine dg_s (pc' := 14) [.int (1 : Int32)] rfl (fun _ => rfl) rfl ?_
      exact dw_r (some (.inl (some (.int (1 : Int32)), m))) rfl (fun _ => rfl) (kR _)
def H_X9_isSheet : dc_H := fun As m k => match As with
  | [.int x0] => k (some (.int (d_X9_isSheet x0 m))) m
  | _ => dc_kz
theorem H_X9_isSheet_ok {u : Nat} : dc_cok u 131 H_X9_isSheet := fun M' hG N As m k P hz hP => by
  obtain rfl : ab_M_X9_isSheet = M' := Option.some.inj hG
  unfold H_X9_isSheet at hP
  split at hP
  · rename_i x0
    exact dc_pv.imp (k_X9_isSheet (Φ := fun (t : Int32) r m' => P (k (some (.int t)) m) → P (k r m')) x0 m (fun _  h => h) rfl) (fun r m' h => h hP)
  · exact absurd hP hz
noncomputable def C_X9_judge : List (Nat × dc_H) := [(28, H_X3_isMade), (78, H_X6_faultAs), (79, H_X6_hasCells), (95, H_X8_isCube), (98, H_X8_levelsIn), (138, H_X9_canBeMade), (132, H_X9_isLane), (131, H_X9_isSheet)]
theorem CO_X9_judge {u : Nat} : dc_CO u C_X9_judge := dc_CO_cons H_X3_isMade_ok (dc_CO_cons H_X6_faultAs_ok (dc_CO_cons H_X6_hasCells_ok (dc_CO_cons H_X8_isCube_ok (dc_CO_cons H_X8_levelsIn_ok (dc_CO_cons H_X9_canBeMade_ok (dc_CO_cons H_X9_isLane_ok (dc_CO_cons H_X9_isSheet_ok (dc_CO_nil))))))))
def S_X9_judge : List (Nat × List Nat) := [(83, [0, 1, 4, 5, 6, 8, 10]), (161, [0, 1, 8])]
noncomputable def d_X9_judge_b161 (x0 : Nat) (x1 : Int32) (x8 : Int64) (m : dc_M) : Option (Int32 × dc_M) :=
  (if (Int32.toInt (lg_cmp (x8 &&& (m.2.1 ((x0 + 14) + 2) (Int32.toNatClampNeg x1))) (0 : Int64))) = 0 then (if (Int32.toInt (lg_cmp ((m.2.1 ((x0 + 14) + 1) (Int32.toNatClampNeg x1)) &&& (x8 ^^^ (-1 : Int64))) (0 : Int64))) = 0 then some (((1 : Int32), m)) else some (((0 : Int32), m))) else some (((2 : Int32), m)))
set_option maxHeartbeats 8000000 in
theorem k_X9_judge_b161 {u : Nat} {N : Nat} {Φ : (Option (Int32 × dc_M)) → Option Value → dc_M → Prop} (x0 : Nat) (x1 : Int32) (x8 : Int64) (m : dc_M) (kR : ∀ (v : Int32) (m : dc_M), Φ (some ((v, m))) (some (.int v)) m)  {lv : ab_L} (f0 : ab_lk lv 0 = some (.ref x0)) (f1 : ab_lk lv 1 = some (.int x1)) (f8 : ab_lk lv 8 = some (.long x8)) : dc_pv u N ab_M_X9_judge 161 lv [] m (Φ (d_X9_judge_b161 x0 x1 x8 m)) := by
  refine dc_pv.mono (dc_ok (C := C_X9_judge) (S := S_X9_judge) CO_X9_judge 400 161 [(0, .ref x0), (1, .int x1), (8, .long x8)] lv [] m (dc_sub_cons f0 (dc_sub_cons f1 (dc_sub_cons f8 (dc_sub_nil)))) ?_) (Nat.le_succ N)
  unfold d_X9_judge_b161
  refine dg_s (pc' := 163) [.long x8] rfl (fun _ => rfl) rfl ?_
  refine dg_s (pc' := 164) [.ref x0, .long x8] rfl (fun _ => rfl) rfl ?_
  refine dg_s (pc' := 167) [.ref (x0 + 14), .long x8] rfl (fun _ => rfl) rfl ?_
  refine dg_s (pc' := 170) [.ref ((x0 + 14) + 2), .long x8] rfl (fun _ => rfl) rfl ?_
  refine dg_s (pc' := 171) [.int x1, .ref ((x0 + 14) + 2), .long x8] rfl (fun _ => rfl) rfl ?_
  refine dg_s (pc' := 172) [.long (m.2.1 ((x0 + 14) + 2) (Int32.toNatClampNeg x1)), .long x8] rfl (fun _ => rfl) rfl ?_
  refine dg_s (pc' := 173) [.long (x8 &&& (m.2.1 ((x0 + 14) + 2) (Int32.toNatClampNeg x1)))] rfl (fun _ => rfl) rfl ?_
  refine dg_s (pc' := 174) [.long (0 : Int64), .long (x8 &&& (m.2.1 ((x0 + 14) + 2) (Int32.toNatClampNeg x1)))] rfl (fun _ => rfl) rfl ?_
  refine dg_s (pc' := 175) [.int (lg_cmp (x8 &&& (m.2.1 ((x0 + 14) + 2) (Int32.toNatClampNeg x1))) (0 : Int64))] rfl (fun _ => rfl) rfl ?_
  refine dw_if (fun t => Φ t) ((Int32.toInt (lg_cmp (x8 &&& (m.2.1 ((x0 + 14) + 2) (Int32.toNatClampNeg x1))) (0 : Int64))) = 0) [] 180 178 rfl (fun _ => rfl) (fun c0 => ?_) (fun c0 => ?_)
  · refine dw_g rfl ?_
    refine dg_s (pc' := 181) [.ref x0] rfl (fun _ => rfl) rfl ?_
    refine dg_s (pc' := 184) [.ref (x0 + 14)] rfl (fun _ => rfl) rfl ?_
    refine dg_s (pc' := 187) [.ref ((x0 + 14) + 1)] rfl (fun _ => rfl) rfl ?_
    refine dg_s (pc' := 188) [.int x1, .ref ((x0 + 14) + 1)] rfl (fun _ => rfl) rfl ?_
    refine dg_s (pc' := 189) [.long (m.2.1 ((x0 + 14) + 1) (Int32.toNatClampNeg x1))] rfl (fun _ => rfl) rfl ?_
    refine dg_s (pc' := 191) [.long x8, .long (m.2.1 ((x0 + 14) + 1) (Int32.toNatClampNeg x1))] rfl (fun _ => rfl) rfl ?_
    refine dg_s (pc' := 194) [.long (-1 : Int64), .long x8, .long (m.2.1 ((x0 + 14) + 1) (Int32.toNatClampNeg x1))] rfl (fun _ => rfl) rfl ?_
    refine dg_s (pc' := 195) [.long (x8 ^^^ (-1 : Int64)), .long (m.2.1 ((x0 + 14) + 1) (Int32.toNatClampNeg x1))] rfl (fun _ => rfl) rfl ?_
    refine dg_s (pc' := 196) [.long ((m.2.1 ((x0 + 14) + 1) (Int32.toNatClampNeg x1)) &&& (x8 ^^^ (-1 : Int64)))] rfl (fun _ => rfl) rfl ?_
    refine dg_s (pc' := 197) [.long (0 : Int64), .long ((m.2.1 ((x0 + 14) + 1) (Int32.toNatClampNeg x1)) &&& (x8 ^^^ (-1 : Int64)))] rfl (fun _ => rfl) rfl ?_
    refine dg_s (pc' := 198) [.int (lg_cmp ((m.2.1 ((x0 + 14) + 1) (Int32.toNatClampNeg x1)) &&& (x8 ^^^ (-1 : Int64))) (0 : Int64))] rfl (fun _ => rfl) rfl ?_
    refine dw_if (fun t => Φ t) ((Int32.toInt (lg_cmp ((m.2.1 ((x0 + 14) + 1) (Int32.toNatClampNeg x1)) &&& (x8 ^^^ (-1 : Int64))) (0 : Int64))) = 0) [] 205 201 rfl (fun _ => rfl) (fun c1 => ?_) (fun c1 => ?_)
    · refine dw_g rfl ?_
      refine dg_s (pc' := 206) [.int (1 : Int32)] rfl (fun _ => rfl) rfl ?_
      exact dw_r (some (.inl (some (.int (1 : Int32)), m))) rfl (fun _ => rfl) (kR _ _)
    · refine dw_g rfl ?_
      refine dg_s (pc' := 202) [.int (0 : Int32)] rfl (fun _ => rfl) rfl ?_
      refine dg_s (pc' := 206) [.int (0 : Int32)] rfl (fun _ => rfl) rfl ?_
      exact dw_r (some (.inl (some (.int (0 : Int32)), m))) rfl (fun _ => rfl) (kR _ _)
  · refine dw_g rfl ?_
    refine dg_s (pc' := 179) [.int (2 : Int32)] rfl (fun _ => rfl) rfl ?_
    exact dw_r (some (.inl (some (.int (2 : Int32)), m))) rfl (fun _ => rfl) (kR _ _)
noncomputable def d_X9_judge_l83b (x0 : Nat) (x1 : Int32) (x4 : Int32) (x5 : Int32) (x6 : Nat) (x8 : Int64) (x10 : Int32) (m : dc_M) : Option ((Int64 × Int32) ⊕ (Int32 × dc_M)) :=
  (if (Int32.toInt x5) ≤ (Int32.toInt x10) then ((d_X9_judge_b161 x0 x1 x8 m).map (fun z => Sum.inr (z))) else (if ¬ (Int32.toInt (d_X6_hasCells x6 x4 (x10 + (1 : Int32)) m)) = 0 then (if ¬ (Int32.toInt (d_X8_isCube (x0 + 14) (m.1 (x6 + 1) (Int32.toNatClampNeg (x4 + x10))) m)) = 0 then ((d_X8_levelsIn (m.1 (x6 + 1) (Int32.toNatClampNeg (x4 + x10))) (m.1 (m.2.2.1 x0 7) 0) m).bind (fun q1 => some (Sum.inl ((x8 ||| q1), (x10 + (1 : Int32)))))) else some (Sum.inr ((((-20 : Int32) - x10), m)))) else some (Sum.inr (((-12 : Int32), m)))))
noncomputable def d_X9_judge_l83s (x0 : Nat) (x1 : Int32) (x4 : Int32) (x5 : Int32) (x6 : Nat) (m : dc_M) : (Int64 × Int32) → Option ((Int64 × Int32) ⊕ (Int32 × dc_M)) := fun s => d_X9_judge_l83b x0 x1 x4 x5 x6 s.1 s.2 m
noncomputable def d_X9_judge_l83 (x0 : Nat) (x1 : Int32) (x4 : Int32) (x5 : Int32) (x6 : Nat) (x8 : Int64) (x10 : Int32) (m : dc_M) : Option (Int32 × dc_M) := dc_lp (d_X9_judge_l83s x0 x1 x4 x5 x6 m) (x8, x10)
set_option maxHeartbeats 8000000 in
theorem k_X9_judge_l83 {u : Nat} {Φ : (Option (Int32 × dc_M)) → Option Value → dc_M → Prop} (x0 : Nat) (x1 : Int32) (x4 : Int32) (x5 : Int32) (x6 : Nat) (m : dc_M) (kR : ∀ (v : Int32) (m : dc_M), Φ (some ((v, m))) (some (.int v)) m) : ∀ (N : Nat), ∀ (x8 : Int64) (x10 : Int32) (lv : ab_L), ab_lk lv 0 = some (.ref x0) → ab_lk lv 1 = some (.int x1) → ab_lk lv 4 = some (.int x4) → ab_lk lv 5 = some (.int x5) → ab_lk lv 6 = some (.ref x6) → ab_lk lv 8 = some (.long x8) → ab_lk lv 10 = some (.int x10) → dc_pv u N ab_M_X9_judge 83 lv [] m (Φ (d_X9_judge_l83 x0 x1 x4 x5 x6 x8 x10 m)) := by
  intro N
  induction N with
  | zero => intros; exact dc_pv_zero
  | succ N ih =>
    intro x8 x10 lv f0 f1 f4 f5 f6 f8 f10
    refine dc_ok (C := C_X9_judge) (S := S_X9_judge) CO_X9_judge 400 83 [(0, .ref x0), (1, .int x1), (4, .int x4), (5, .int x5), (6, .ref x6), (8, .long x8), (10, .int x10)] lv [] m (dc_sub_cons f0 (dc_sub_cons f1 (dc_sub_cons f4 (dc_sub_cons f5 (dc_sub_cons f6 (dc_sub_cons f8 (dc_sub_cons f10 (dc_sub_nil)))))))) ?_
    unfold d_X9_judge_l83
    rw [dc_lp_eq]
    show (fun t x => dc_lf u N ab_M_X9_judge (Φ (Option.bind t (dc_bk (d_X9_judge_l83s x0 x1 x4 x5 x6 m)))) x) (d_X9_judge_l83b x0 x1 x4 x5 x6 x8 x10 m) _
    dsimp only
    unfold d_X9_judge_l83b
    refine dg_s (pc' := 85) [.int x10] rfl (fun _ => rfl) rfl ?_
    refine dg_s (pc' := 87) [.int x5, .int x10] rfl (fun _ => rfl) rfl ?_
    refine dw_if (fun t => Φ (Option.bind t (dc_bk (d_X9_judge_l83s x0 x1 x4 x5 x6 m)))) ((Int32.toInt x5) ≤ (Int32.toInt x10)) [] 161 90 rfl (fun _ => rfl) (fun c0 => ?_) (fun c0 => ?_)
    · exact dw_j rfl (fun lv1 hv => k_X9_judge_b161 (Φ := (fun t => Φ (Option.bind (t.map (fun z => Sum.inr (z))) (dc_bk (d_X9_judge_l83s x0 x1 x4 x5 x6 m))))) x0 x1 x8 m (fun _a _b => kR _a _b)  (hv.1 _ rfl) (hv.2.1 _ rfl) (hv.2.2.1 _ rfl))
    · refine dw_g rfl ?_
      refine dg_s (pc' := 92) [.ref x6] rfl (fun _ => rfl) rfl ?_
      refine dg_s (pc' := 94) [.int x4, .ref x6] rfl (fun _ => rfl) rfl ?_
      refine dg_s (pc' := 96) [.int x10, .int x4, .ref x6] rfl (fun _ => rfl) rfl ?_
      refine dg_s (pc' := 97) [.int (1 : Int32), .int x10, .int x4, .ref x6] rfl (fun _ => rfl) rfl ?_
      refine dg_s (pc' := 98) [.int (x10 + (1 : Int32)), .int x4, .ref x6] rfl (fun _ => rfl) rfl ?_
      refine dg_s (pc' := 101) [.int (d_X6_hasCells x6 x4 (x10 + (1 : Int32)) m)] rfl (fun _ => rfl) rfl ?_
      refine dw_if (fun t => Φ (Option.bind t (dc_bk (d_X9_judge_l83s x0 x1 x4 x5 x6 m)))) (¬ (Int32.toInt (d_X6_hasCells x6 x4 (x10 + (1 : Int32)) m)) = 0) [] 107 104 rfl (fun _ => rfl) (fun c1 => ?_) (fun c1 => ?_)
      · refine dw_g rfl ?_
        refine dg_s (pc' := 109) [.ref x6] rfl (fun _ => rfl) rfl ?_
        refine dg_s (pc' := 112) [.ref (x6 + 1)] rfl (fun _ => rfl) rfl ?_
        refine dg_s (pc' := 114) [.int x4, .ref (x6 + 1)] rfl (fun _ => rfl) rfl ?_
        refine dg_s (pc' := 116) [.int x10, .int x4, .ref (x6 + 1)] rfl (fun _ => rfl) rfl ?_
        refine dg_s (pc' := 117) [.int (x4 + x10), .ref (x6 + 1)] rfl (fun _ => rfl) rfl ?_
        refine dg_s (pc' := 118) [.int (m.1 (x6 + 1) (Int32.toNatClampNeg (x4 + x10)))] rfl (fun _ => rfl) rfl ?_
        refine dg_L (pc' := 120) [(11, .int (m.1 (x6 + 1) (Int32.toNatClampNeg (x4 + x10)))), (0, .ref x0), (1, .int x1), (4, .int x4), (5, .int x5), (6, .ref x6), (8, .long x8), (10, .int x10)] [] rfl (fun _ => rfl) rfl ?_
        refine dg_s (pc' := 121) [.ref x0] rfl (fun _ => rfl) rfl ?_
        refine dg_s (pc' := 124) [.ref (x0 + 14)] rfl (fun _ => rfl) rfl ?_
        refine dg_s (pc' := 126) [.int (m.1 (x6 + 1) (Int32.toNatClampNeg (x4 + x10))), .ref (x0 + 14)] rfl (fun _ => rfl) rfl ?_
        refine dg_s (pc' := 129) [.int (d_X8_isCube (x0 + 14) (m.1 (x6 + 1) (Int32.toNatClampNeg (x4 + x10))) m)] rfl (fun _ => rfl) rfl ?_
        refine dw_if (fun t => Φ (Option.bind t (dc_bk (d_X9_judge_l83s x0 x1 x4 x5 x6 m)))) (¬ (Int32.toInt (d_X8_isCube (x0 + 14) (m.1 (x6 + 1) (Int32.toNatClampNeg (x4 + x10))) m)) = 0) [] 138 132 rfl (fun _ => rfl) (fun c2 => ?_) (fun c2 => ?_)
        · refine dw_g rfl ?_
          refine dg_s (pc' := 140) [.long x8] rfl (fun _ => rfl) rfl ?_
          refine dg_s (pc' := 142) [.int (m.1 (x6 + 1) (Int32.toNatClampNeg (x4 + x10))), .long x8] rfl (fun _ => rfl) rfl ?_
          refine dg_s (pc' := 143) [.ref x0, .int (m.1 (x6 + 1) (Int32.toNatClampNeg (x4 + x10))), .long x8] rfl (fun _ => rfl) rfl ?_
          refine dg_s (pc' := 146) [.ref (m.2.2.1 x0 7), .int (m.1 (x6 + 1) (Int32.toNatClampNeg (x4 + x10))), .long x8] rfl (fun _ => rfl) rfl ?_
          refine dg_s (pc' := 149) [.int (m.1 (m.2.2.1 x0 7) 0), .int (m.1 (x6 + 1) (Int32.toNatClampNeg (x4 + x10))), .long x8] rfl (fun _ => rfl) rfl ?_
          refine dw_b (fun t => Φ (Option.bind t (dc_bk (d_X9_judge_l83s x0 x1 x4 x5 x6 m)))) (pc' := 152) (fun q1 => [.long q1, .long x8]) (fun q1 => m) rfl (fun _ => rfl) (fun q1 => ?_)
          refine dw_g rfl ?_
          refine dg_s (pc' := 153) [.long (x8 ||| q1)] rfl (fun _ => rfl) rfl ?_
          refine dg_L (pc' := 155) [(8, .long (x8 ||| q1)), (11, .int (m.1 (x6 + 1) (Int32.toNatClampNeg (x4 + x10)))), (0, .ref x0), (1, .int x1), (4, .int x4), (5, .int x5), (6, .ref x6), (10, .int x10)] [] rfl (fun _ => rfl) rfl ?_
          refine dg_L (pc' := 158) [(10, .int (x10 + (1 : Int32))), (8, .long (x8 ||| q1)), (11, .int (m.1 (x6 + 1) (Int32.toNatClampNeg (x4 + x10)))), (0, .ref x0), (1, .int x1), (4, .int x4), (5, .int x5), (6, .ref x6)] [] rfl (fun _ => rfl) rfl ?_
          refine dw_s (pc' := 83) [] rfl (fun _ => rfl) ?_
          exact dw_j rfl (fun lv1 hv => ih (x8 ||| q1) (x10 + (1 : Int32)) lv1 (hv.1 _ rfl) (hv.2.1 _ rfl) (hv.2.2.1 _ rfl) (hv.2.2.2.1 _ rfl) (hv.2.2.2.2.1 _ rfl) (hv.2.2.2.2.2.1 _ rfl) (hv.2.2.2.2.2.2.1 _ rfl))
        · refine dw_g rfl ?_
          refine dg_s (pc' := 134) [.int (-20 : Int32)] rfl (fun _ => rfl) rfl ?_
          refine dg_s (pc' := 136) [.int x10, .int (-20 : Int32)] rfl (fun _ => rfl) rfl ?_
          refine dg_s (pc' := 137) [.int ((-20 : Int32) - x10)] rfl (fun _ => rfl) rfl ?_
          exact dw_r (some (.inl (some (.int ((-20 : Int32) - x10)), m))) rfl (fun _ => rfl) (kR _ _)
      · refine dw_g rfl ?_
        refine dg_s (pc' := 106) [.int (-12 : Int32)] rfl (fun _ => rfl) rfl ?_
        exact dw_r (some (.inl (some (.int (-12 : Int32)), m))) rfl (fun _ => rfl) (kR _ _)
noncomputable def d_X9_judge (x0 : Nat) (x1 : Int32) (x2 : Int32) (x3 : Int32) (x4 : Int32) (x5 : Int32) (m : dc_M) : Option (Int32 × dc_M) :=
  (if (Int32.toInt (d_X3_isMade (m.2.2.1 x0 7) x1 m)) = 0 then some (((-1 : Int32), m)) else (if (Int32.toInt (d_X9_isSheet x2 m)) = 0 then some (((-1 : Int32), m)) else (if (Int32.toInt (d_X9_isLane x3 m)) = 0 then some (((-1 : Int32), m)) else (if (Int32.toInt x5) < 0 then some (((-1 : Int32), m)) else (if (Int32.toInt x5) ≤ 30 then ((d_X9_canBeMade x0 x1 m).bind (fun q1 => (if ¬ (Int32.toInt q1.1) = 0 then (if (Int32.toInt (d_X6_faultAs (q1.2.2.2.1 (x0 + 39) (Int32.toNatClampNeg x2)) x3 q1.2)) = 0 then (d_X9_judge_l83 x0 x1 x4 x5 (q1.2.2.2.1 (x0 + 39) (Int32.toNatClampNeg x2)) (0 : Int64) (0 : Int32) q1.2) else some ((((-10 : Int32) - (d_X6_faultAs (q1.2.2.2.1 (x0 + 39) (Int32.toNatClampNeg x2)) x3 q1.2)), q1.2))) else some (((-2 : Int32), q1.2))))) else some (((-1 : Int32), m)))))))
set_option maxHeartbeats 8000000 in
theorem k_X9_judge {u : Nat} {N : Nat} {Φ : (Option (Int32 × dc_M)) → Option Value → dc_M → Prop} (x0 : Nat) (x1 : Int32) (x2 : Int32) (x3 : Int32) (x4 : Int32) (x5 : Int32) (m : dc_M) (kR : ∀ (v : Int32) (m : dc_M), Φ (some ((v, m))) (some (.int v)) m)  {lv : ab_L} (f0 : ab_lk lv 0 = some (.ref x0)) (f1 : ab_lk lv 1 = some (.int x1)) (f2 : ab_lk lv 2 = some (.int x2)) (f3 : ab_lk lv 3 = some (.int x3)) (f4 : ab_lk lv 4 = some (.int x4)) (f5 : ab_lk lv 5 = some (.int x5)) : dc_pv u N ab_M_X9_judge 0 lv [] m (Φ (d_X9_judge x0 x1 x2 x3 x4 x5 m)) := by
  refine dc_pv.mono (dc_ok (C := C_X9_judge) (S := S_X9_judge) CO_X9_judge 400 0 [(0, .ref x0), (1, .int x1), (2, .int x2), (3, .int x3), (4, .int x4), (5, .int x5)] lv [] m (dc_sub_cons f0 (dc_sub_cons f1 (dc_sub_cons f2 (dc_sub_cons f3 (dc_sub_cons f4 (dc_sub_cons f5 (dc_sub_nil))))))) ?_) (Nat.le_succ N)
  unfold d_X9_judge
  refine dg_s (pc' := 1) [.ref x0] rfl (fun _ => rfl) rfl ?_
  refine dg_s (pc' := 4) [.ref (m.2.2.1 x0 7)] rfl (fun _ => rfl) rfl ?_
  refine dg_s (pc' := 5) [.int x1, .ref (m.2.2.1 x0 7)] rfl (fun _ => rfl) rfl ?_
  refine dg_s (pc' := 8) [.int (d_X3_isMade (m.2.2.1 x0 7) x1 m)] rfl (fun _ => rfl) rfl ?_
  refine dw_if (fun t => Φ t) ((Int32.toInt (d_X3_isMade (m.2.2.1 x0 7) x1 m)) = 0) [] 37 11 rfl (fun _ => rfl) (fun c0 => ?_) (fun c0 => ?_)
  · refine dw_g rfl ?_
    refine dg_s (pc' := 38) [.int (-1 : Int32)] rfl (fun _ => rfl) rfl ?_
    exact dw_r (some (.inl (some (.int (-1 : Int32)), m))) rfl (fun _ => rfl) (kR _ _)
  · refine dw_g rfl ?_
    refine dg_s (pc' := 12) [.int x2] rfl (fun _ => rfl) rfl ?_
    refine dg_s (pc' := 15) [.int (d_X9_isSheet x2 m)] rfl (fun _ => rfl) rfl ?_
    refine dw_if (fun t => Φ t) ((Int32.toInt (d_X9_isSheet x2 m)) = 0) [] 37 18 rfl (fun _ => rfl) (fun c1 => ?_) (fun c1 => ?_)
    · refine dw_g rfl ?_
      refine dg_s (pc' := 38) [.int (-1 : Int32)] rfl (fun _ => rfl) rfl ?_
      exact dw_r (some (.inl (some (.int (-1 : Int32)), m))) rfl (fun _ => rfl) (kR _ _)
    · refine dw_g rfl ?_
      refine dg_s (pc' := 19) [.int x3] rfl (fun _ => rfl) rfl ?_
      refine dg_s (pc' := 22) [.int (d_X9_isLane x3 m)] rfl (fun _ => rfl) rfl ?_
      refine dw_if (fun t => Φ t) ((Int32.toInt (d_X9_isLane x3 m)) = 0) [] 37 25 rfl (fun _ => rfl) (fun c2 => ?_) (fun c2 => ?_)
      · refine dw_g rfl ?_
        refine dg_s (pc' := 38) [.int (-1 : Int32)] rfl (fun _ => rfl) rfl ?_
        exact dw_r (some (.inl (some (.int (-1 : Int32)), m))) rfl (fun _ => rfl) (kR _ _)
      · refine dw_g rfl ?_
        refine dg_s (pc' := 27) [.int x5] rfl (fun _ => rfl) rfl ?_
        refine dw_if (fun t => Φ t) ((Int32.toInt x5) < 0) [] 37 30 rfl (fun _ => rfl) (fun c3 => ?_) (fun c3 => ?_)
        · refine dw_g rfl ?_
          refine dg_s (pc' := 38) [.int (-1 : Int32)] rfl (fun _ => rfl) rfl ?_
          exact dw_r (some (.inl (some (.int (-1 : Int32)), m))) rfl (fun _ => rfl) (kR _ _)
        · refine dw_g rfl ?_
          refine dg_s (pc' := 32) [.int x5] rfl (fun _ => rfl) rfl ?_
          refine dg_s (pc' := 34) [.int (30 : Int32), .int x5] rfl (fun _ => rfl) rfl ?_
          refine dw_if (fun t => Φ t) ((Int32.toInt x5) ≤ 30) [] 39 37 rfl (fun _ => rfl) (fun c4 => ?_) (fun c4 => ?_)
          · refine dw_g rfl ?_
            refine dg_s (pc' := 40) [.ref x0] rfl (fun _ => rfl) rfl ?_
            refine dg_s (pc' := 41) [.int x1, .ref x0] rfl (fun _ => rfl) rfl ?_
            refine dw_b (fun t => Φ t) (pc' := 44) (fun q1 => [.int q1.1]) (fun q1 => q1.2) rfl (fun _ => rfl) (fun q1 => ?_)
            refine dw_g rfl ?_
            refine dw_if (fun t => Φ t) (¬ (Int32.toInt q1.1) = 0) [] 50 47 rfl (fun _ => rfl) (fun c5 => ?_) (fun c5 => ?_)
            · refine dw_g rfl ?_
              refine dg_s (pc' := 51) [.ref x0] rfl (fun _ => rfl) rfl ?_
              refine dg_s (pc' := 54) [.ref (x0 + 39)] rfl (fun _ => rfl) rfl ?_
              refine dg_s (pc' := 55) [.int x2, .ref (x0 + 39)] rfl (fun _ => rfl) rfl ?_
              refine dg_s (pc' := 56) [.ref (q1.2.2.2.1 (x0 + 39) (Int32.toNatClampNeg x2))] rfl (fun _ => rfl) rfl ?_
              refine dg_L (pc' := 58) [(6, .ref (q1.2.2.2.1 (x0 + 39) (Int32.toNatClampNeg x2))), (0, .ref x0), (1, .int x1), (2, .int x2), (3, .int x3), (4, .int x4), (5, .int x5)] [] rfl (fun _ => rfl) rfl ?_
              refine dg_s (pc' := 60) [.ref (q1.2.2.2.1 (x0 + 39) (Int32.toNatClampNeg x2))] rfl (fun _ => rfl) rfl ?_
              refine dg_s (pc' := 61) [.int x3, .ref (q1.2.2.2.1 (x0 + 39) (Int32.toNatClampNeg x2))] rfl (fun _ => rfl) rfl ?_
              refine dg_s (pc' := 64) [.int (d_X6_faultAs (q1.2.2.2.1 (x0 + 39) (Int32.toNatClampNeg x2)) x3 q1.2)] rfl (fun _ => rfl) rfl ?_
              refine dg_L (pc' := 66) [(7, .int (d_X6_faultAs (q1.2.2.2.1 (x0 + 39) (Int32.toNatClampNeg x2)) x3 q1.2)), (6, .ref (q1.2.2.2.1 (x0 + 39) (Int32.toNatClampNeg x2))), (0, .ref x0), (1, .int x1), (2, .int x2), (3, .int x3), (4, .int x4), (5, .int x5)] [] rfl (fun _ => rfl) rfl ?_
              refine dg_s (pc' := 68) [.int (d_X6_faultAs (q1.2.2.2.1 (x0 + 39) (Int32.toNatClampNeg x2)) x3 q1.2)] rfl (fun _ => rfl) rfl ?_
              refine dw_if (fun t => Φ t) ((Int32.toInt (d_X6_faultAs (q1.2.2.2.1 (x0 + 39) (Int32.toNatClampNeg x2)) x3 q1.2)) = 0) [] 77 71 rfl (fun _ => rfl) (fun c6 => ?_) (fun c6 => ?_)
              · refine dw_g rfl ?_
                refine dg_s (pc' := 78) [.long (0 : Int64)] rfl (fun _ => rfl) rfl ?_
                refine dg_L (pc' := 80) [(8, .long (0 : Int64)), (7, .int (d_X6_faultAs (q1.2.2.2.1 (x0 + 39) (Int32.toNatClampNeg x2)) x3 q1.2)), (6, .ref (q1.2.2.2.1 (x0 + 39) (Int32.toNatClampNeg x2))), (0, .ref x0), (1, .int x1), (2, .int x2), (3, .int x3), (4, .int x4), (5, .int x5)] [] rfl (fun _ => rfl) rfl ?_
                refine dg_s (pc' := 81) [.int (0 : Int32)] rfl (fun _ => rfl) rfl ?_
                refine dw_L (pc' := 83) [(10, .int (0 : Int32)), (8, .long (0 : Int64)), (7, .int (d_X6_faultAs (q1.2.2.2.1 (x0 + 39) (Int32.toNatClampNeg x2)) x3 q1.2)), (6, .ref (q1.2.2.2.1 (x0 + 39) (Int32.toNatClampNeg x2))), (0, .ref x0), (1, .int x1), (2, .int x2), (3, .int x3), (4, .int x4), (5, .int x5)] [] rfl (fun _ => rfl) ?_
                exact dw_j rfl (fun lv1 hv => k_X9_judge_l83 (Φ := (fun t => Φ t)) x0 x1 x4 x5 (q1.2.2.2.1 (x0 + 39) (Int32.toNatClampNeg x2)) q1.2 (fun _a _b => kR _a _b) N  (0 : Int64) (0 : Int32) lv1 (hv.1 _ rfl) (hv.2.1 _ rfl) (hv.2.2.1 _ rfl) (hv.2.2.2.1 _ rfl) (hv.2.2.2.2.1 _ rfl) (hv.2.2.2.2.2.1 _ rfl) (hv.2.2.2.2.2.2.1 _ rfl))
              · refine dw_g rfl ?_
                refine dg_s (pc' := 73) [.int (-10 : Int32)] rfl (fun _ => rfl) rfl ?_
                refine dg_s (pc' := 75) [.int (d_X6_faultAs (q1.2.2.2.1 (x0 + 39) (Int32.toNatClampNeg x2)) x3 q1.2), .int (-10 : Int32)] rfl (fun _ => rfl) rfl ?_
                refine dg_s (pc' := 76) [.int ((-10 : Int32) - (d_X6_faultAs (q1.2.2.2.1 (x0 + 39) (Int32.toNatClampNeg x2)) x3 q1.2))] rfl (fun _ => rfl) rfl ?_
                exact dw_r (some (.inl (some (.int ((-10 : Int32) - (d_X6_faultAs (q1.2.2.2.1 (x0 + 39) (Int32.toNatClampNeg x2)) x3 q1.2))), q1.2))) rfl (fun _ => rfl) (kR _ _)
            · refine dw_g rfl ?_
              refine dg_s (pc' := 49) [.int (-2 : Int32)] rfl (fun _ => rfl) rfl ?_
              exact dw_r (some (.inl (some (.int (-2 : Int32)), q1.2))) rfl (fun _ => rfl) (kR _ _)
          · refine dw_g rfl ?_
            refine dg_s (pc' := 38) [.int (-1 : Int32)] rfl (fun _ => rfl) rfl ?_
            exact dw_r (some (.inl (some (.int (-1 : Int32)), m))) rfl (fun _ => rfl) (kR _ _)
noncomputable def H_X9_judge : dc_H := fun As m k => match As with
  | [.ref x0, .int x1, .int x2, .int x3, .int x4, .int x5] => (d_X9_judge x0 x1 x2 x3 x4 x5 m).bind (fun q => k (some (.int q.1)) q.2)
  | _ => dc_kz
theorem H_X9_judge_ok {u : Nat} : dc_cok u 116 H_X9_judge := fun M' hG N As m k P hz hP => by
  obtain rfl : ab_M_X9_judge = M' := Option.some.inj hG
  unfold H_X9_judge at hP
  split at hP
  · rename_i x0 x1 x2 x3 x4 x5
    exact dc_pv.imp (k_X9_judge (Φ := fun (t : Option (Int32 × dc_M)) r m' => P (t.bind (fun q => k (some (.int q.1)) q.2)) → P (k r m')) x0 x1 x2 x3 x4 x5 m (fun _ _ h => h) rfl rfl rfl rfl rfl rfl) (fun r m' h => h hP)
  · exact absurd hP hz
noncomputable def C_X9_refusedCure : List (Nat × dc_H) := [(26, H_X3_hasEvent), (41, H_X3_hasRoomForCure), (135, H_X9_isRight)]
theorem CO_X9_refusedCure {u : Nat} : dc_CO u C_X9_refusedCure := dc_CO_cons H_X3_hasEvent_ok (dc_CO_cons H_X3_hasRoomForCure_ok (dc_CO_cons H_X9_isRight_ok (dc_CO_nil)))
def S_X9_refusedCure : List (Nat × List Nat) := []
noncomputable def d_X9_refusedCure (x0 : Nat) (x1 : Int32) (x2 : Int32) (m : dc_M) : Option (Int32 × dc_M) :=
  (if (Int32.toInt (d_X3_hasEvent (m.2.2.1 x0 7) x1 m)) = 0 then some (((-1 : Int32), m)) else (if (Int32.toInt (d_X3_hasEvent (m.2.2.1 x0 7) x2 m)) = 0 then some (((-1 : Int32), m)) else (if ¬ (Int32.toInt x1) = (Int32.toInt x2) then ((d_X9_isRight x0 m).bind (fun q1 => (if ¬ (Int32.toInt q1.1) = 0 then (if (Int32.toInt (d_X3_hasRoomForCure (q1.2.2.2.1 x0 7) q1.2)) = 0 then some (((-3 : Int32), q1.2)) else some (((0 : Int32), q1.2))) else some (((-2 : Int32), q1.2))))) else some (((-1 : Int32), m)))))
set_option maxHeartbeats 8000000 in
theorem k_X9_refusedCure {u : Nat} {N : Nat} {Φ : (Option (Int32 × dc_M)) → Option Value → dc_M → Prop} (x0 : Nat) (x1 : Int32) (x2 : Int32) (m : dc_M) (kR : ∀ (v : Int32) (m : dc_M), Φ (some ((v, m))) (some (.int v)) m)  {lv : ab_L} (f0 : ab_lk lv 0 = some (.ref x0)) (f1 : ab_lk lv 1 = some (.int x1)) (f2 : ab_lk lv 2 = some (.int x2)) : dc_pv u N ab_M_X9_refusedCure 0 lv [] m (Φ (d_X9_refusedCure x0 x1 x2 m)) := by
  refine dc_pv.mono (dc_ok (C := C_X9_refusedCure) (S := S_X9_refusedCure) CO_X9_refusedCure 400 0 [(0, .ref x0), (1, .int x1), (2, .int x2)] lv [] m (dc_sub_cons f0 (dc_sub_cons f1 (dc_sub_cons f2 (dc_sub_nil)))) ?_) (Nat.le_succ N)
  unfold d_X9_refusedCure
  refine dg_s (pc' := 1) [.ref x0] rfl (fun _ => rfl) rfl ?_
  refine dg_s (pc' := 4) [.ref (m.2.2.1 x0 7)] rfl (fun _ => rfl) rfl ?_
  refine dg_s (pc' := 5) [.int x1, .ref (m.2.2.1 x0 7)] rfl (fun _ => rfl) rfl ?_
  refine dg_s (pc' := 8) [.int (d_X3_hasEvent (m.2.2.1 x0 7) x1 m)] rfl (fun _ => rfl) rfl ?_
  refine dw_if (fun t => Φ t) ((Int32.toInt (d_X3_hasEvent (m.2.2.1 x0 7) x1 m)) = 0) [] 27 11 rfl (fun _ => rfl) (fun c0 => ?_) (fun c0 => ?_)
  · refine dw_g rfl ?_
    refine dg_s (pc' := 28) [.int (-1 : Int32)] rfl (fun _ => rfl) rfl ?_
    exact dw_r (some (.inl (some (.int (-1 : Int32)), m))) rfl (fun _ => rfl) (kR _ _)
  · refine dw_g rfl ?_
    refine dg_s (pc' := 12) [.ref x0] rfl (fun _ => rfl) rfl ?_
    refine dg_s (pc' := 15) [.ref (m.2.2.1 x0 7)] rfl (fun _ => rfl) rfl ?_
    refine dg_s (pc' := 16) [.int x2, .ref (m.2.2.1 x0 7)] rfl (fun _ => rfl) rfl ?_
    refine dg_s (pc' := 19) [.int (d_X3_hasEvent (m.2.2.1 x0 7) x2 m)] rfl (fun _ => rfl) rfl ?_
    refine dw_if (fun t => Φ t) ((Int32.toInt (d_X3_hasEvent (m.2.2.1 x0 7) x2 m)) = 0) [] 27 22 rfl (fun _ => rfl) (fun c1 => ?_) (fun c1 => ?_)
    · refine dw_g rfl ?_
      refine dg_s (pc' := 28) [.int (-1 : Int32)] rfl (fun _ => rfl) rfl ?_
      exact dw_r (some (.inl (some (.int (-1 : Int32)), m))) rfl (fun _ => rfl) (kR _ _)
    · refine dw_g rfl ?_
      refine dg_s (pc' := 23) [.int x1] rfl (fun _ => rfl) rfl ?_
      refine dg_s (pc' := 24) [.int x2, .int x1] rfl (fun _ => rfl) rfl ?_
      refine dw_if (fun t => Φ t) (¬ (Int32.toInt x1) = (Int32.toInt x2)) [] 29 27 rfl (fun _ => rfl) (fun c2 => ?_) (fun c2 => ?_)
      · refine dw_g rfl ?_
        refine dg_s (pc' := 30) [.ref x0] rfl (fun _ => rfl) rfl ?_
        refine dw_b (fun t => Φ t) (pc' := 33) (fun q1 => [.int q1.1]) (fun q1 => q1.2) rfl (fun _ => rfl) (fun q1 => ?_)
        refine dw_g rfl ?_
        refine dw_if (fun t => Φ t) (¬ (Int32.toInt q1.1) = 0) [] 39 36 rfl (fun _ => rfl) (fun c3 => ?_) (fun c3 => ?_)
        · refine dw_g rfl ?_
          refine dg_s (pc' := 40) [.ref x0] rfl (fun _ => rfl) rfl ?_
          refine dg_s (pc' := 43) [.ref (q1.2.2.2.1 x0 7)] rfl (fun _ => rfl) rfl ?_
          refine dg_s (pc' := 46) [.int (d_X3_hasRoomForCure (q1.2.2.2.1 x0 7) q1.2)] rfl (fun _ => rfl) rfl ?_
          refine dw_if (fun t => Φ t) ((Int32.toInt (d_X3_hasRoomForCure (q1.2.2.2.1 x0 7) q1.2)) = 0) [] 53 49 rfl (fun _ => rfl) (fun c4 => ?_) (fun c4 => ?_)
          · refine dw_g rfl ?_
            refine dg_s (pc' := 55) [.int (-3 : Int32)] rfl (fun _ => rfl) rfl ?_
            exact dw_r (some (.inl (some (.int (-3 : Int32)), q1.2))) rfl (fun _ => rfl) (kR _ _)
          · refine dw_g rfl ?_
            refine dg_s (pc' := 50) [.int (0 : Int32)] rfl (fun _ => rfl) rfl ?_
            refine dg_s (pc' := 55) [.int (0 : Int32)] rfl (fun _ => rfl) rfl ?_
            exact dw_r (some (.inl (some (.int (0 : Int32)), q1.2))) rfl (fun _ => rfl) (kR _ _)
        · refine dw_g rfl ?_
          refine dg_s (pc' := 38) [.int (-2 : Int32)] rfl (fun _ => rfl) rfl ?_
          exact dw_r (some (.inl (some (.int (-2 : Int32)), q1.2))) rfl (fun _ => rfl) (kR _ _)
      · refine dw_g rfl ?_
        refine dg_s (pc' := 28) [.int (-1 : Int32)] rfl (fun _ => rfl) rfl ?_
        exact dw_r (some (.inl (some (.int (-1 : Int32)), m))) rfl (fun _ => rfl) (kR _ _)
noncomputable def H_X9_refusedCure : dc_H := fun As m k => match As with
  | [.ref x0, .int x1, .int x2] => (d_X9_refusedCure x0 x1 x2 m).bind (fun q => k (some (.int q.1)) q.2)
  | _ => dc_kz
theorem H_X9_refusedCure_ok {u : Nat} : dc_cok u 140 H_X9_refusedCure := fun M' hG N As m k P hz hP => by
  obtain rfl : ab_M_X9_refusedCure = M' := Option.some.inj hG
  unfold H_X9_refusedCure at hP
  split at hP
  · rename_i x0 x1 x2
    exact dc_pv.imp (k_X9_refusedCure (Φ := fun (t : Option (Int32 × dc_M)) r m' => P (t.bind (fun q => k (some (.int q.1)) q.2)) → P (k r m')) x0 x1 x2 m (fun _ _ h => h) rfl rfl rfl) (fun r m' h => h hP)
  · exact absurd hP hz
noncomputable def C_X9_tryCure : List (Nat × dc_H) := [(1, H_X0_find), (42, H_X3_addWireBehind), (24, H_X3_copyFrom), (82, H_X7_explore)]
theorem CO_X9_tryCure {u : Nat} : dc_CO u C_X9_tryCure := dc_CO_cons H_X0_find_ok (dc_CO_cons H_X3_addWireBehind_ok (dc_CO_cons H_X3_copyFrom_ok (dc_CO_cons H_X7_explore_ok (dc_CO_nil))))
def S_X9_tryCure : List (Nat × List Nat) := []
noncomputable def d_X9_tryCure (x0 : Nat) (x1 : Int32) (x2 : Int32) (m : dc_M) : Option dc_M :=
  (dc_let (d_X3_copyFrom (m.2.2.1 x0 8) (m.2.2.1 x0 7) m) (fun q1 => ((d_X3_addWireBehind (q1.2.2.1 x0 8) x1 x2 q1).bind (fun q2 => ((d_X7_explore (x0 + 62) (q2.2.2.1 x0 8) q2).bind (fun q3 => (if (Int32.toInt (q3.1 (x0 + 62) 3)) = 0 then some (q3) else ((d_X0_find (x0 + 70) (q3.2.2.1 x0 8) (x0 + 62) q3).bind (fun q4 => some (q4))))))))))
set_option maxHeartbeats 8000000 in
theorem k_X9_tryCure {u : Nat} {N : Nat} {Φ : (Option dc_M) → Option Value → dc_M → Prop} (x0 : Nat) (x1 : Int32) (x2 : Int32) (m : dc_M) (kR : ∀  (m : dc_M), Φ (some (m)) (none) m)  {lv : ab_L} (f0 : ab_lk lv 0 = some (.ref x0)) (f1 : ab_lk lv 1 = some (.int x1)) (f2 : ab_lk lv 2 = some (.int x2)) : dc_pv u N ab_M_X9_tryCure 0 lv [] m (Φ (d_X9_tryCure x0 x1 x2 m)) := by
  refine dc_pv.mono (dc_ok (C := C_X9_tryCure) (S := S_X9_tryCure) CO_X9_tryCure 400 0 [(0, .ref x0), (1, .int x1), (2, .int x2)] lv [] m (dc_sub_cons f0 (dc_sub_cons f1 (dc_sub_cons f2 (dc_sub_nil)))) ?_) (Nat.le_succ N)
  unfold d_X9_tryCure
  refine dg_s (pc' := 1) [.ref x0] rfl (fun _ => rfl) rfl ?_
  refine dg_s (pc' := 4) [.ref (m.2.2.1 x0 8)] rfl (fun _ => rfl) rfl ?_
  refine dg_s (pc' := 5) [.ref x0, .ref (m.2.2.1 x0 8)] rfl (fun _ => rfl) rfl ?_
  refine dg_s (pc' := 8) [.ref (m.2.2.1 x0 7), .ref (m.2.2.1 x0 8)] rfl (fun _ => rfl) rfl ?_
  refine dw_l (fun t => Φ t) (pc' := 11) (fun q1 => []) (fun q1 => q1) rfl (fun _ => rfl) (fun q1 => ?_)
  refine dw_g rfl ?_
  refine dg_s (pc' := 12) [.ref x0] rfl (fun _ => rfl) rfl ?_
  refine dg_s (pc' := 15) [.ref (q1.2.2.1 x0 8)] rfl (fun _ => rfl) rfl ?_
  refine dg_s (pc' := 16) [.int x1, .ref (q1.2.2.1 x0 8)] rfl (fun _ => rfl) rfl ?_
  refine dg_s (pc' := 17) [.int x2, .int x1, .ref (q1.2.2.1 x0 8)] rfl (fun _ => rfl) rfl ?_
  refine dw_b (fun t => Φ t) (pc' := 20) (fun q2 => []) (fun q2 => q2) rfl (fun _ => rfl) (fun q2 => ?_)
  refine dw_g rfl ?_
  refine dg_s (pc' := 21) [.ref x0] rfl (fun _ => rfl) rfl ?_
  refine dg_s (pc' := 24) [.ref (x0 + 62)] rfl (fun _ => rfl) rfl ?_
  refine dg_s (pc' := 25) [.ref x0, .ref (x0 + 62)] rfl (fun _ => rfl) rfl ?_
  refine dg_s (pc' := 28) [.ref (q2.2.2.1 x0 8), .ref (x0 + 62)] rfl (fun _ => rfl) rfl ?_
  refine dw_b (fun t => Φ t) (pc' := 31) (fun q3 => []) (fun q3 => q3) rfl (fun _ => rfl) (fun q3 => ?_)
  refine dw_g rfl ?_
  refine dg_s (pc' := 32) [.ref x0] rfl (fun _ => rfl) rfl ?_
  refine dg_s (pc' := 35) [.ref (x0 + 62)] rfl (fun _ => rfl) rfl ?_
  refine dg_s (pc' := 38) [.int (q3.1 (x0 + 62) 3)] rfl (fun _ => rfl) rfl ?_
  refine dw_if (fun t => Φ t) ((Int32.toInt (q3.1 (x0 + 62) 3)) = 0) [] 56 41 rfl (fun _ => rfl) (fun c0 => ?_) (fun c0 => ?_)
  · refine dw_g rfl ?_
    exact dw_r (some (.inl (none, q3))) rfl (fun _ => rfl) (kR _)
  · refine dw_g rfl ?_
    refine dg_s (pc' := 42) [.ref x0] rfl (fun _ => rfl) rfl ?_
    refine dg_s (pc' := 45) [.ref (x0 + 70)] rfl (fun _ => rfl) rfl ?_
    refine dg_s (pc' := 46) [.ref x0, .ref (x0 + 70)] rfl (fun _ => rfl) rfl ?_
    refine dg_s (pc' := 49) [.ref (q3.2.2.1 x0 8), .ref (x0 + 70)] rfl (fun _ => rfl) rfl ?_
    refine dg_s (pc' := 50) [.ref x0, .ref (q3.2.2.1 x0 8), .ref (x0 + 70)] rfl (fun _ => rfl) rfl ?_
    refine dg_s (pc' := 53) [.ref (x0 + 62), .ref (q3.2.2.1 x0 8), .ref (x0 + 70)] rfl (fun _ => rfl) rfl ?_
    refine dw_b (fun t => Φ t) (pc' := 56) (fun q4 => []) (fun q4 => q4) rfl (fun _ => rfl) (fun q4 => ?_)
    refine dw_g rfl ?_
    exact dw_r (some (.inl (none, q4))) rfl (fun _ => rfl) (kR _)
noncomputable def H_X9_tryCure : dc_H := fun As m k => match As with
  | [.ref x0, .int x1, .int x2] => (d_X9_tryCure x0 x1 x2 m).bind (fun q => k (none) q)
  | _ => dc_kz
theorem H_X9_tryCure_ok {u : Nat} : dc_cok u 141 H_X9_tryCure := fun M' hG N As m k P hz hP => by
  obtain rfl : ab_M_X9_tryCure = M' := Option.some.inj hG
  unfold H_X9_tryCure at hP
  split at hP
  · rename_i x0 x1 x2
    exact dc_pv.imp (k_X9_tryCure (Φ := fun (t : Option dc_M) r m' => P (t.bind (fun q => k (none) q)) → P (k r m')) x0 x1 x2 m (fun _ h => h) rfl rfl rfl) (fun r m' h => h hP)
  · exact absurd hP hz
noncomputable def C_X9_would : List (Nat × dc_H) := [(140, H_X9_refusedCure), (141, H_X9_tryCure)]
theorem CO_X9_would {u : Nat} : dc_CO u C_X9_would := dc_CO_cons H_X9_refusedCure_ok (dc_CO_cons H_X9_tryCure_ok (dc_CO_nil))
def S_X9_would : List (Nat × List Nat) := []
noncomputable def d_X9_would (x0 : Nat) (x1 : Int32) (x2 : Int32) (m : dc_M) : Option (Int32 × dc_M) :=
  ((d_X9_refusedCure x0 x1 x2 m).bind (fun q1 => (if (Int32.toInt q1.1) = 0 then ((d_X9_tryCure x0 x1 x2 q1.2).bind (fun q2 => (if ¬ (Int32.toInt (q2.1 (x0 + 62) 3)) = 0 then (if (Int32.toInt (q2.1 (x0 + 70) 4)) ≤ 0 then some (((q2.1 (x0 + 70) 1), q2)) else some (((-11 : Int32), q2))) else some (((-10 : Int32), q2))))) else some ((q1.1, q1.2)))))
set_option maxHeartbeats 8000000 in
theorem k_X9_would {u : Nat} {N : Nat} {Φ : (Option (Int32 × dc_M)) → Option Value → dc_M → Prop} (x0 : Nat) (x1 : Int32) (x2 : Int32) (m : dc_M) (kR : ∀ (v : Int32) (m : dc_M), Φ (some ((v, m))) (some (.int v)) m)  {lv : ab_L} (f0 : ab_lk lv 0 = some (.ref x0)) (f1 : ab_lk lv 1 = some (.int x1)) (f2 : ab_lk lv 2 = some (.int x2)) : dc_pv u N ab_M_X9_would 0 lv [] m (Φ (d_X9_would x0 x1 x2 m)) := by
  refine dc_pv.mono (dc_ok (C := C_X9_would) (S := S_X9_would) CO_X9_would 400 0 [(0, .ref x0), (1, .int x1), (2, .int x2)] lv [] m (dc_sub_cons f0 (dc_sub_cons f1 (dc_sub_cons f2 (dc_sub_nil)))) ?_) (Nat.le_succ N)
  unfold d_X9_would
  refine dg_s (pc' := 1) [.ref x0] rfl (fun _ => rfl) rfl ?_
  refine dg_s (pc' := 2) [.int x1, .ref x0] rfl (fun _ => rfl) rfl ?_
  refine dg_s (pc' := 3) [.int x2, .int x1, .ref x0] rfl (fun _ => rfl) rfl ?_
  refine dw_b (fun t => Φ t) (pc' := 6) (fun q1 => [.int q1.1]) (fun q1 => q1.2) rfl (fun _ => rfl) (fun q1 => ?_)
  refine dw_g rfl ?_
  refine dg_L (pc' := 7) [(3, .int q1.1), (0, .ref x0), (1, .int x1), (2, .int x2)] [] rfl (fun _ => rfl) rfl ?_
  refine dg_s (pc' := 8) [.int q1.1] rfl (fun _ => rfl) rfl ?_
  refine dw_if (fun t => Φ t) ((Int32.toInt q1.1) = 0) [] 13 11 rfl (fun _ => rfl) (fun c0 => ?_) (fun c0 => ?_)
  · refine dw_g rfl ?_
    refine dg_s (pc' := 14) [.ref x0] rfl (fun _ => rfl) rfl ?_
    refine dg_s (pc' := 15) [.int x1, .ref x0] rfl (fun _ => rfl) rfl ?_
    refine dg_s (pc' := 16) [.int x2, .int x1, .ref x0] rfl (fun _ => rfl) rfl ?_
    refine dw_b (fun t => Φ t) (pc' := 19) (fun q2 => []) (fun q2 => q2) rfl (fun _ => rfl) (fun q2 => ?_)
    refine dw_g rfl ?_
    refine dg_s (pc' := 20) [.ref x0] rfl (fun _ => rfl) rfl ?_
    refine dg_s (pc' := 23) [.ref (x0 + 62)] rfl (fun _ => rfl) rfl ?_
    refine dg_s (pc' := 26) [.int (q2.1 (x0 + 62) 3)] rfl (fun _ => rfl) rfl ?_
    refine dw_if (fun t => Φ t) (¬ (Int32.toInt (q2.1 (x0 + 62) 3)) = 0) [] 32 29 rfl (fun _ => rfl) (fun c1 => ?_) (fun c1 => ?_)
    · refine dw_g rfl ?_
      refine dg_s (pc' := 33) [.ref x0] rfl (fun _ => rfl) rfl ?_
      refine dg_s (pc' := 36) [.ref (x0 + 70)] rfl (fun _ => rfl) rfl ?_
      refine dg_s (pc' := 39) [.int (q2.1 (x0 + 70) 4)] rfl (fun _ => rfl) rfl ?_
      refine dw_if (fun t => Φ t) ((Int32.toInt (q2.1 (x0 + 70) 4)) ≤ 0) [] 47 42 rfl (fun _ => rfl) (fun c2 => ?_) (fun c2 => ?_)
      · refine dw_g rfl ?_
        refine dg_s (pc' := 48) [.ref x0] rfl (fun _ => rfl) rfl ?_
        refine dg_s (pc' := 51) [.ref (x0 + 70)] rfl (fun _ => rfl) rfl ?_
        refine dg_s (pc' := 54) [.int (q2.1 (x0 + 70) 1)] rfl (fun _ => rfl) rfl ?_
        exact dw_r (some (.inl (some (.int (q2.1 (x0 + 70) 1)), q2))) rfl (fun _ => rfl) (kR _ _)
      · refine dw_g rfl ?_
        refine dg_s (pc' := 44) [.int (-11 : Int32)] rfl (fun _ => rfl) rfl ?_
        refine dg_s (pc' := 54) [.int (-11 : Int32)] rfl (fun _ => rfl) rfl ?_
        exact dw_r (some (.inl (some (.int (-11 : Int32)), q2))) rfl (fun _ => rfl) (kR _ _)
    · refine dw_g rfl ?_
      refine dg_s (pc' := 31) [.int (-10 : Int32)] rfl (fun _ => rfl) rfl ?_
      exact dw_r (some (.inl (some (.int (-10 : Int32)), q2))) rfl (fun _ => rfl) (kR _ _)
  · refine dw_g rfl ?_
    refine dg_s (pc' := 12) [.int q1.1] rfl (fun _ => rfl) rfl ?_
    exact dw_r (some (.inl (some (.int q1.1), q1.2))) rfl (fun _ => rfl) (kR _ _)
noncomputable def H_X9_would : dc_H := fun As m k => match As with
  | [.ref x0, .int x1, .int x2] => (d_X9_would x0 x1 x2 m).bind (fun q => k (some (.int q.1)) q.2)
  | _ => dc_kz
theorem H_X9_would_ok {u : Nat} : dc_cok u 118 H_X9_would := fun M' hG N As m k P hz hP => by
  obtain rfl : ab_M_X9_would = M' := Option.some.inj hG
  unfold H_X9_would at hP
  split at hP
  · rename_i x0 x1 x2
    exact dc_pv.imp (k_X9_would (Φ := fun (t : Option (Int32 × dc_M)) r m' => P (t.bind (fun q => k (some (.int q.1)) q.2)) → P (k r m')) x0 x1 x2 m (fun _ _ h => h) rfl rfl rfl) (fun r m' h => h hP)
  · exact absurd hP hz
noncomputable def C_X9_cure : List (Nat × dc_H) := [(42, H_X3_addWireBehind), (133, H_X9_beginAnew), (140, H_X9_refusedCure)]
theorem CO_X9_cure {u : Nat} : dc_CO u C_X9_cure := dc_CO_cons H_X3_addWireBehind_ok (dc_CO_cons H_X9_beginAnew_ok (dc_CO_cons H_X9_refusedCure_ok (dc_CO_nil)))
def S_X9_cure : List (Nat × List Nat) := []
noncomputable def d_X9_cure (x0 : Nat) (x1 : Int32) (x2 : Int32) (m : dc_M) : Option (Int32 × dc_M) :=
  ((d_X9_refusedCure x0 x1 x2 m).bind (fun q1 => (if (Int32.toInt q1.1) = 0 then ((d_X3_addWireBehind (q1.2.2.2.1 x0 7) x1 x2 q1.2).bind (fun q2 => (dc_let (d_X9_beginAnew x0 q2) (fun q3 => some ((((q3.1 (q3.2.2.1 x0 7) 0) - (1 : Int32)), q3)))))) else some ((q1.1, q1.2)))))
set_option maxHeartbeats 8000000 in
theorem k_X9_cure {u : Nat} {N : Nat} {Φ : (Option (Int32 × dc_M)) → Option Value → dc_M → Prop} (x0 : Nat) (x1 : Int32) (x2 : Int32) (m : dc_M) (kR : ∀ (v : Int32) (m : dc_M), Φ (some ((v, m))) (some (.int v)) m)  {lv : ab_L} (f0 : ab_lk lv 0 = some (.ref x0)) (f1 : ab_lk lv 1 = some (.int x1)) (f2 : ab_lk lv 2 = some (.int x2)) : dc_pv u N ab_M_X9_cure 0 lv [] m (Φ (d_X9_cure x0 x1 x2 m)) := by
  refine dc_pv.mono (dc_ok (C := C_X9_cure) (S := S_X9_cure) CO_X9_cure 400 0 [(0, .ref x0), (1, .int x1), (2, .int x2)] lv [] m (dc_sub_cons f0 (dc_sub_cons f1 (dc_sub_cons f2 (dc_sub_nil)))) ?_) (Nat.le_succ N)
  unfold d_X9_cure
  refine dg_s (pc' := 1) [.ref x0] rfl (fun _ => rfl) rfl ?_
  refine dg_s (pc' := 2) [.int x1, .ref x0] rfl (fun _ => rfl) rfl ?_
  refine dg_s (pc' := 3) [.int x2, .int x1, .ref x0] rfl (fun _ => rfl) rfl ?_
  refine dw_b (fun t => Φ t) (pc' := 6) (fun q1 => [.int q1.1]) (fun q1 => q1.2) rfl (fun _ => rfl) (fun q1 => ?_)
  refine dw_g rfl ?_
  refine dg_L (pc' := 7) [(3, .int q1.1), (0, .ref x0), (1, .int x1), (2, .int x2)] [] rfl (fun _ => rfl) rfl ?_
  refine dg_s (pc' := 8) [.int q1.1] rfl (fun _ => rfl) rfl ?_
  refine dw_if (fun t => Φ t) ((Int32.toInt q1.1) = 0) [] 13 11 rfl (fun _ => rfl) (fun c0 => ?_) (fun c0 => ?_)
  · refine dw_g rfl ?_
    refine dg_s (pc' := 14) [.ref x0] rfl (fun _ => rfl) rfl ?_
    refine dg_s (pc' := 17) [.ref (q1.2.2.2.1 x0 7)] rfl (fun _ => rfl) rfl ?_
    refine dg_s (pc' := 18) [.int x1, .ref (q1.2.2.2.1 x0 7)] rfl (fun _ => rfl) rfl ?_
    refine dg_s (pc' := 19) [.int x2, .int x1, .ref (q1.2.2.2.1 x0 7)] rfl (fun _ => rfl) rfl ?_
    refine dw_b (fun t => Φ t) (pc' := 22) (fun q2 => []) (fun q2 => q2) rfl (fun _ => rfl) (fun q2 => ?_)
    refine dw_g rfl ?_
    refine dg_s (pc' := 23) [.ref x0] rfl (fun _ => rfl) rfl ?_
    refine dw_l (fun t => Φ t) (pc' := 26) (fun q3 => []) (fun q3 => q3) rfl (fun _ => rfl) (fun q3 => ?_)
    refine dw_g rfl ?_
    refine dg_s (pc' := 27) [.ref x0] rfl (fun _ => rfl) rfl ?_
    refine dg_s (pc' := 30) [.ref (q3.2.2.1 x0 7)] rfl (fun _ => rfl) rfl ?_
    refine dg_s (pc' := 33) [.int (q3.1 (q3.2.2.1 x0 7) 0)] rfl (fun _ => rfl) rfl ?_
    refine dg_s (pc' := 34) [.int (1 : Int32), .int (q3.1 (q3.2.2.1 x0 7) 0)] rfl (fun _ => rfl) rfl ?_
    refine dg_s (pc' := 35) [.int ((q3.1 (q3.2.2.1 x0 7) 0) - (1 : Int32))] rfl (fun _ => rfl) rfl ?_
    exact dw_r (some (.inl (some (.int ((q3.1 (q3.2.2.1 x0 7) 0) - (1 : Int32))), q3))) rfl (fun _ => rfl) (kR _ _)
  · refine dw_g rfl ?_
    refine dg_s (pc' := 12) [.int q1.1] rfl (fun _ => rfl) rfl ?_
    exact dw_r (some (.inl (some (.int q1.1), q1.2))) rfl (fun _ => rfl) (kR _ _)
noncomputable def H_X9_cure : dc_H := fun As m k => match As with
  | [.ref x0, .int x1, .int x2] => (d_X9_cure x0 x1 x2 m).bind (fun q => k (some (.int q.1)) q.2)
  | _ => dc_kz
theorem H_X9_cure_ok {u : Nat} : dc_cok u 119 H_X9_cure := fun M' hG N As m k P hz hP => by
  obtain rfl : ab_M_X9_cure = M' := Option.some.inj hG
  unfold H_X9_cure at hP
  split at hP
  · rename_i x0 x1 x2
    exact dc_pv.imp (k_X9_cure (Φ := fun (t : Option (Int32 × dc_M)) r m' => P (t.bind (fun q => k (some (.int q.1)) q.2)) → P (k r m')) x0 x1 x2 m (fun _ _ h => h) rfl rfl rfl) (fun r m' h => h hP)
  · exact absurd hP hz
noncomputable def C_X9_wouldCure : List (Nat × dc_H) := [(141, H_X9_tryCure)]
theorem CO_X9_wouldCure {u : Nat} : dc_CO u C_X9_wouldCure := dc_CO_cons H_X9_tryCure_ok (dc_CO_nil)
def S_X9_wouldCure : List (Nat × List Nat) := []
noncomputable def d_X9_wouldCure (x0 : Nat) (x1 : Int32) (x2 : Int32) (m : dc_M) : Option (Int32 × dc_M) :=
  ((d_X9_tryCure x0 x1 x2 m).bind (fun q1 => (if (Int32.toInt (q1.1 (x0 + 62) 3)) = 0 then some (((0 : Int32), q1)) else (if ¬ (Int32.toInt (q1.1 (x0 + 70) 1)) = 0 then some (((0 : Int32), q1)) else (if ¬ (Int32.toInt (q1.1 (x0 + 70) 4)) = 0 then some (((0 : Int32), q1)) else some (((1 : Int32), q1)))))))
set_option maxHeartbeats 8000000 in
theorem k_X9_wouldCure {u : Nat} {N : Nat} {Φ : (Option (Int32 × dc_M)) → Option Value → dc_M → Prop} (x0 : Nat) (x1 : Int32) (x2 : Int32) (m : dc_M) (kR : ∀ (v : Int32) (m : dc_M), Φ (some ((v, m))) (some (.int v)) m)  {lv : ab_L} (f0 : ab_lk lv 0 = some (.ref x0)) (f1 : ab_lk lv 1 = some (.int x1)) (f2 : ab_lk lv 2 = some (.int x2)) : dc_pv u N ab_M_X9_wouldCure 0 lv [] m (Φ (d_X9_wouldCure x0 x1 x2 m)) := by
  refine dc_pv.mono (dc_ok (C := C_X9_wouldCure) (S := S_X9_wouldCure) CO_X9_wouldCure 400 0 [(0, .ref x0), (1, .int x1), (2, .int x2)] lv [] m (dc_sub_cons f0 (dc_sub_cons f1 (dc_sub_cons f2 (dc_sub_nil)))) ?_) (Nat.le_succ N)
  unfold d_X9_wouldCure
  refine dg_s (pc' := 1) [.ref x0] rfl (fun _ => rfl) rfl ?_
  refine dg_s (pc' := 2) [.int x1, .ref x0] rfl (fun _ => rfl) rfl ?_
  refine dg_s (pc' := 3) [.int x2, .int x1, .ref x0] rfl (fun _ => rfl) rfl ?_
  refine dw_b (fun t => Φ t) (pc' := 6) (fun q1 => []) (fun q1 => q1) rfl (fun _ => rfl) (fun q1 => ?_)
  refine dw_g rfl ?_
  refine dg_s (pc' := 7) [.ref x0] rfl (fun _ => rfl) rfl ?_
  refine dg_s (pc' := 10) [.ref (x0 + 62)] rfl (fun _ => rfl) rfl ?_
  refine dg_s (pc' := 13) [.int (q1.1 (x0 + 62) 3)] rfl (fun _ => rfl) rfl ?_
  refine dw_if (fun t => Φ t) ((Int32.toInt (q1.1 (x0 + 62) 3)) = 0) [] 40 16 rfl (fun _ => rfl) (fun c0 => ?_) (fun c0 => ?_)
  · refine dw_g rfl ?_
    refine dg_s (pc' := 41) [.int (0 : Int32)] rfl (fun _ => rfl) rfl ?_
    exact dw_r (some (.inl (some (.int (0 : Int32)), q1))) rfl (fun _ => rfl) (kR _ _)
  · refine dw_g rfl ?_
    refine dg_s (pc' := 17) [.ref x0] rfl (fun _ => rfl) rfl ?_
    refine dg_s (pc' := 20) [.ref (x0 + 70)] rfl (fun _ => rfl) rfl ?_
    refine dg_s (pc' := 23) [.int (q1.1 (x0 + 70) 1)] rfl (fun _ => rfl) rfl ?_
    refine dw_if (fun t => Φ t) (¬ (Int32.toInt (q1.1 (x0 + 70) 1)) = 0) [] 40 26 rfl (fun _ => rfl) (fun c1 => ?_) (fun c1 => ?_)
    · refine dw_g rfl ?_
      refine dg_s (pc' := 41) [.int (0 : Int32)] rfl (fun _ => rfl) rfl ?_
      exact dw_r (some (.inl (some (.int (0 : Int32)), q1))) rfl (fun _ => rfl) (kR _ _)
    · refine dw_g rfl ?_
      refine dg_s (pc' := 27) [.ref x0] rfl (fun _ => rfl) rfl ?_
      refine dg_s (pc' := 30) [.ref (x0 + 70)] rfl (fun _ => rfl) rfl ?_
      refine dg_s (pc' := 33) [.int (q1.1 (x0 + 70) 4)] rfl (fun _ => rfl) rfl ?_
      refine dw_if (fun t => Φ t) (¬ (Int32.toInt (q1.1 (x0 + 70) 4)) = 0) [] 40 36 rfl (fun _ => rfl) (fun c2 => ?_) (fun c2 => ?_)
      · refine dw_g rfl ?_
        refine dg_s (pc' := 41) [.int (0 : Int32)] rfl (fun _ => rfl) rfl ?_
        exact dw_r (some (.inl (some (.int (0 : Int32)), q1))) rfl (fun _ => rfl) (kR _ _)
      · refine dw_g rfl ?_
        refine dg_s (pc' := 37) [.int (1 : Int32)] rfl (fun _ => rfl) rfl ?_
        refine dg_s (pc' := 41) [.int (1 : Int32)] rfl (fun _ => rfl) rfl ?_
        exact dw_r (some (.inl (some (.int (1 : Int32)), q1))) rfl (fun _ => rfl) (kR _ _)
noncomputable def H_X9_wouldCure : dc_H := fun As m k => match As with
  | [.ref x0, .int x1, .int x2] => (d_X9_wouldCure x0 x1 x2 m).bind (fun q => k (some (.int q.1)) q.2)
  | _ => dc_kz
theorem H_X9_wouldCure_ok {u : Nat} : dc_cok u 142 H_X9_wouldCure := fun M' hG N As m k P hz hP => by
  obtain rfl : ab_M_X9_wouldCure = M' := Option.some.inj hG
  unfold H_X9_wouldCure at hP
  split at hP
  · rename_i x0 x1 x2
    exact dc_pv.imp (k_X9_wouldCure (Φ := fun (t : Option (Int32 × dc_M)) r m' => P (t.bind (fun q => k (some (.int q.1)) q.2)) → P (k r m')) x0 x1 x2 m (fun _ _ h => h) rfl rfl rfl) (fun r m' h => h hP)
  · exact absurd hP hz
noncomputable def C_X9_searchCures : List (Nat × dc_H) := [(142, H_X9_wouldCure)]
theorem CO_X9_searchCures {u : Nat} : dc_CO u C_X9_searchCures := dc_CO_cons H_X9_wouldCure_ok (dc_CO_nil)
def S_X9_searchCures : List (Nat × List Nat) := [(10, [0, 1, 2, 3]), (24, [0, 1, 2, 3, 4]), (70, [0, 1, 2, 3, 4])]
noncomputable def d_X9_searchCures_b70 (x0 : Nat) (x1 : Int32) (x2 : Int32) (x3 : Int32) (x4 : Int32) (m : dc_M) : Option ((Int32 × Int32 × dc_M) ⊕ ((Int32 × Int32 × dc_M) ⊕ dc_M)) :=
  (if ¬ (Int32.toInt x1) = 0 then some (Sum.inl ((x2 + (1 : Int32)), (x4 + (1 : Int32)), m)) else some (Sum.inr (Sum.inr (m))))
set_option maxHeartbeats 8000000 in
theorem k_X9_searchCures_b70 {u : Nat} {N : Nat} {Φ : (Option ((Int32 × Int32 × dc_M) ⊕ ((Int32 × Int32 × dc_M) ⊕ dc_M))) → Option Value → dc_M → Prop} (x0 : Nat) (x1 : Int32) (x2 : Int32) (x3 : Int32) (x4 : Int32) (m : dc_M) (kR : ∀  (m : dc_M), Φ (some (Sum.inr (Sum.inr (m)))) (none) m) (k24 : ∀ (x2 : Int32) (x4 : Int32) (m : dc_M) (lv : ab_L), ab_lk lv 0 = some (.ref x0) → ab_lk lv 1 = some (.int x1) → ab_lk lv 2 = some (.int x2) → ab_lk lv 3 = some (.int x3) → ab_lk lv 4 = some (.int x4) →  dc_pv u N ab_M_X9_searchCures 24 lv [] m (Φ (some (Sum.inl (x2, x4, m))))) (k10 : ∀ (x2 : Int32) (x3 : Int32) (m : dc_M) (lv : ab_L), ab_lk lv 0 = some (.ref x0) → ab_lk lv 1 = some (.int x1) → ab_lk lv 2 = some (.int x2) → ab_lk lv 3 = some (.int x3) →  dc_pv u N ab_M_X9_searchCures 10 lv [] m (Φ (some (Sum.inr (Sum.inl (x2, x3, m)))))) {lv : ab_L} (f0 : ab_lk lv 0 = some (.ref x0)) (f1 : ab_lk lv 1 = some (.int x1)) (f2 : ab_lk lv 2 = some (.int x2)) (f3 : ab_lk lv 3 = some (.int x3)) (f4 : ab_lk lv 4 = some (.int x4)) : dc_pv u N ab_M_X9_searchCures 70 lv [] m (Φ (d_X9_searchCures_b70 x0 x1 x2 x3 x4 m)) := by
  refine dc_pv.mono (dc_ok (C := C_X9_searchCures) (S := S_X9_searchCures) CO_X9_searchCures 400 70 [(0, .ref x0), (1, .int x1), (2, .int x2), (3, .int x3), (4, .int x4)] lv [] m (dc_sub_cons f0 (dc_sub_cons f1 (dc_sub_cons f2 (dc_sub_cons f3 (dc_sub_cons f4 (dc_sub_nil)))))) ?_) (Nat.le_succ N)
  unfold d_X9_searchCures_b70
  refine dg_L (pc' := 73) [(2, .int (x2 + (1 : Int32))), (0, .ref x0), (1, .int x1), (3, .int x3), (4, .int x4)] [] rfl (fun _ => rfl) rfl ?_
  refine dg_s (pc' := 74) [.int x1] rfl (fun _ => rfl) rfl ?_
  refine dw_if (fun t => Φ t) (¬ (Int32.toInt x1) = 0) [] 78 77 rfl (fun _ => rfl) (fun c0 => ?_) (fun c0 => ?_)
  · refine dw_g rfl ?_
    refine dg_L (pc' := 81) [(4, .int (x4 + (1 : Int32))), (2, .int (x2 + (1 : Int32))), (0, .ref x0), (1, .int x1), (3, .int x3)] [] rfl (fun _ => rfl) rfl ?_
    refine dw_s (pc' := 24) [] rfl (fun _ => rfl) ?_
    exact dw_j rfl (fun lv1 hv => k24 (x2 + (1 : Int32)) (x4 + (1 : Int32)) m lv1 (hv.1 _ rfl) (hv.2.1 _ rfl) (hv.2.2.1 _ rfl) (hv.2.2.2.1 _ rfl) (hv.2.2.2.2.1 _ rfl))
  · refine dw_g rfl ?_
    exact dw_r (some (.inl (none, m))) rfl (fun _ => rfl) (kR _)
noncomputable def d_X9_searchCures_l24b (x0 : Nat) (x1 : Int32) (x3 : Int32) (x2 : Int32) (x4 : Int32) (m : dc_M) : Option ((Int32 × Int32 × dc_M) ⊕ ((Int32 × Int32 × dc_M) ⊕ dc_M)) :=
  (if (Int32.toInt (m.1 (m.2.2.1 x0 7) 1)) ≤ (Int32.toInt x4) then some (Sum.inr (Sum.inl (x2, (x3 + (1 : Int32)), m))) else (if (Int32.toInt x3) = (Int32.toInt x4) then some (Sum.inl (x2, (x4 + (1 : Int32)), m)) else ((d_X9_wouldCure x0 x3 x4 m).bind (fun q1 => (if ¬ (Int32.toInt q1.1) = 0 then (if ¬ (Int32.toInt x2) = 0 then (d_X9_searchCures_b70 x0 x1 x2 x3 x4 q1.2) else (d_X9_searchCures_b70 x0 x1 x2 x3 x4 (dc_wi q1.2 x0 15 (((100 : Int32) * x3) + x4)))) else some (Sum.inl (x2, (x4 + (1 : Int32)), q1.2)))))))
noncomputable def d_X9_searchCures_l24s (x0 : Nat) (x1 : Int32) (x3 : Int32) : (Int32 × Int32 × dc_M) → Option ((Int32 × Int32 × dc_M) ⊕ ((Int32 × Int32 × dc_M) ⊕ dc_M)) := fun s => d_X9_searchCures_l24b x0 x1 x3 s.1 s.2.1 s.2.2
noncomputable def d_X9_searchCures_l24 (x0 : Nat) (x1 : Int32) (x3 : Int32) (x2 : Int32) (x4 : Int32) (m : dc_M) : Option ((Int32 × Int32 × dc_M) ⊕ dc_M) := dc_lp (d_X9_searchCures_l24s x0 x1 x3) (x2, x4, m)
set_option maxHeartbeats 8000000 in
theorem k_X9_searchCures_l24 {u : Nat} {Φ : (Option ((Int32 × Int32 × dc_M) ⊕ dc_M)) → Option Value → dc_M → Prop} (x0 : Nat) (x1 : Int32) (x3 : Int32) (kR : ∀  (m : dc_M), Φ (some (Sum.inr (m))) (none) m) : ∀ (N : Nat), (∀ (x2 : Int32) (x3 : Int32) (m : dc_M) (lv : ab_L), ab_lk lv 0 = some (.ref x0) → ab_lk lv 1 = some (.int x1) → ab_lk lv 2 = some (.int x2) → ab_lk lv 3 = some (.int x3) →  dc_pv u N ab_M_X9_searchCures 10 lv [] m (Φ (some (Sum.inl (x2, x3, m))))) → ∀ (x2 : Int32) (x4 : Int32) (m : dc_M) (lv : ab_L), ab_lk lv 0 = some (.ref x0) → ab_lk lv 1 = some (.int x1) → ab_lk lv 2 = some (.int x2) → ab_lk lv 3 = some (.int x3) → ab_lk lv 4 = some (.int x4) → dc_pv u N ab_M_X9_searchCures 24 lv [] m (Φ (d_X9_searchCures_l24 x0 x1 x3 x2 x4 m)) := by
  intro N
  induction N with
  | zero => intros; exact dc_pv_zero
  | succ N ih =>
    intro k10 x2 x4 m lv f0 f1 f2 f3 f4
    have k10 := fun a0 a1 a2 a3 a4 a5 a6 a7 => (k10 a0 a1 a2 a3 a4 a5 a6 a7).mono (Nat.le_succ N)
    have ih := ih k10
    refine dc_ok (C := C_X9_searchCures) (S := S_X9_searchCures) CO_X9_searchCures 400 24 [(0, .ref x0), (1, .int x1), (2, .int x2), (3, .int x3), (4, .int x4)] lv [] m (dc_sub_cons f0 (dc_sub_cons f1 (dc_sub_cons f2 (dc_sub_cons f3 (dc_sub_cons f4 (dc_sub_nil)))))) ?_
    unfold d_X9_searchCures_l24
    rw [dc_lp_eq]
    show (fun t x => dc_lf u N ab_M_X9_searchCures (Φ (Option.bind t (dc_bk (d_X9_searchCures_l24s x0 x1 x3)))) x) (d_X9_searchCures_l24b x0 x1 x3 x2 x4 m) _
    dsimp only
    unfold d_X9_searchCures_l24b
    refine dg_s (pc' := 26) [.int x4] rfl (fun _ => rfl) rfl ?_
    refine dg_s (pc' := 27) [.ref x0, .int x4] rfl (fun _ => rfl) rfl ?_
    refine dg_s (pc' := 30) [.ref (m.2.2.1 x0 7), .int x4] rfl (fun _ => rfl) rfl ?_
    refine dg_s (pc' := 33) [.int (m.1 (m.2.2.1 x0 7) 1), .int x4] rfl (fun _ => rfl) rfl ?_
    refine dw_if (fun t => Φ (Option.bind t (dc_bk (d_X9_searchCures_l24s x0 x1 x3)))) ((Int32.toInt (m.1 (m.2.2.1 x0 7) 1)) ≤ (Int32.toInt x4)) [] 84 36 rfl (fun _ => rfl) (fun c0 => ?_) (fun c0 => ?_)
    · refine dw_g rfl ?_
      refine dg_L (pc' := 87) [(3, .int (x3 + (1 : Int32))), (0, .ref x0), (1, .int x1), (2, .int x2), (4, .int x4)] [] rfl (fun _ => rfl) rfl ?_
      refine dw_s (pc' := 10) [] rfl (fun _ => rfl) ?_
      exact dw_j rfl (fun lv1 hv => k10 x2 (x3 + (1 : Int32)) m lv1 (hv.1 _ rfl) (hv.2.1 _ rfl) (hv.2.2.1 _ rfl) (hv.2.2.2.1 _ rfl))
    · refine dw_g rfl ?_
      refine dg_s (pc' := 37) [.int x3] rfl (fun _ => rfl) rfl ?_
      refine dg_s (pc' := 39) [.int x4, .int x3] rfl (fun _ => rfl) rfl ?_
      refine dw_if (fun t => Φ (Option.bind t (dc_bk (d_X9_searchCures_l24s x0 x1 x3)))) ((Int32.toInt x3) = (Int32.toInt x4)) [] 78 42 rfl (fun _ => rfl) (fun c1 => ?_) (fun c1 => ?_)
      · refine dw_g rfl ?_
        refine dg_L (pc' := 81) [(4, .int (x4 + (1 : Int32))), (0, .ref x0), (1, .int x1), (2, .int x2), (3, .int x3)] [] rfl (fun _ => rfl) rfl ?_
        refine dw_s (pc' := 24) [] rfl (fun _ => rfl) ?_
        exact dw_j rfl (fun lv1 hv => ih x2 (x4 + (1 : Int32)) m lv1 (hv.1 _ rfl) (hv.2.1 _ rfl) (hv.2.2.1 _ rfl) (hv.2.2.2.1 _ rfl) (hv.2.2.2.2.1 _ rfl))
      · refine dw_g rfl ?_
        refine dg_s (pc' := 43) [.ref x0] rfl (fun _ => rfl) rfl ?_
        refine dg_s (pc' := 44) [.int x3, .ref x0] rfl (fun _ => rfl) rfl ?_
        refine dg_s (pc' := 46) [.int x4, .int x3, .ref x0] rfl (fun _ => rfl) rfl ?_
        refine dw_b (fun t => Φ (Option.bind t (dc_bk (d_X9_searchCures_l24s x0 x1 x3)))) (pc' := 49) (fun q1 => [.int q1.1]) (fun q1 => q1.2) rfl (fun _ => rfl) (fun q1 => ?_)
        refine dw_g rfl ?_
        refine dw_if (fun t => Φ (Option.bind t (dc_bk (d_X9_searchCures_l24s x0 x1 x3)))) (¬ (Int32.toInt q1.1) = 0) [] 55 52 rfl (fun _ => rfl) (fun c2 => ?_) (fun c2 => ?_)
        · refine dw_g rfl ?_
          refine dg_s (pc' := 56) [.int x2] rfl (fun _ => rfl) rfl ?_
          refine dw_if (fun t => Φ (Option.bind t (dc_bk (d_X9_searchCures_l24s x0 x1 x3)))) (¬ (Int32.toInt x2) = 0) [] 70 59 rfl (fun _ => rfl) (fun c3 => ?_) (fun c3 => ?_)
          · exact dw_j rfl (fun lv1 hv => k_X9_searchCures_b70 (Φ := (fun t => Φ (Option.bind t (dc_bk (d_X9_searchCures_l24s x0 x1 x3))))) x0 x1 x2 x3 x4 q1.2 (fun _b => kR _b) ih k10 (hv.1 _ rfl) (hv.2.1 _ rfl) (hv.2.2.1 _ rfl) (hv.2.2.2.1 _ rfl) (hv.2.2.2.2.1 _ rfl))
          · refine dw_g rfl ?_
            refine dg_s (pc' := 60) [.ref x0] rfl (fun _ => rfl) rfl ?_
            refine dg_s (pc' := 62) [.int (100 : Int32), .ref x0] rfl (fun _ => rfl) rfl ?_
            refine dg_s (pc' := 63) [.int x3, .int (100 : Int32), .ref x0] rfl (fun _ => rfl) rfl ?_
            refine dg_s (pc' := 64) [.int ((100 : Int32) * x3), .ref x0] rfl (fun _ => rfl) rfl ?_
            refine dg_s (pc' := 66) [.int x4, .int ((100 : Int32) * x3), .ref x0] rfl (fun _ => rfl) rfl ?_
            refine dg_s (pc' := 67) [.int (((100 : Int32) * x3) + x4), .ref x0] rfl (fun _ => rfl) rfl ?_
            refine dw_m (pc' := 70) (dc_wi q1.2 x0 15 (((100 : Int32) * x3) + x4)) [] rfl (fun _ => rfl) ?_
            exact dw_j rfl (fun lv1 hv => k_X9_searchCures_b70 (Φ := (fun t => Φ (Option.bind t (dc_bk (d_X9_searchCures_l24s x0 x1 x3))))) x0 x1 x2 x3 x4 (dc_wi q1.2 x0 15 (((100 : Int32) * x3) + x4)) (fun _b => kR _b) ih k10 (hv.1 _ rfl) (hv.2.1 _ rfl) (hv.2.2.1 _ rfl) (hv.2.2.2.1 _ rfl) (hv.2.2.2.2.1 _ rfl))
        · refine dw_g rfl ?_
          refine dg_s (pc' := 78) [] rfl (fun _ => rfl) rfl ?_
          refine dg_L (pc' := 81) [(4, .int (x4 + (1 : Int32))), (0, .ref x0), (1, .int x1), (2, .int x2), (3, .int x3)] [] rfl (fun _ => rfl) rfl ?_
          refine dw_s (pc' := 24) [] rfl (fun _ => rfl) ?_
          exact dw_j rfl (fun lv1 hv => ih x2 (x4 + (1 : Int32)) q1.2 lv1 (hv.1 _ rfl) (hv.2.1 _ rfl) (hv.2.2.1 _ rfl) (hv.2.2.2.1 _ rfl) (hv.2.2.2.2.1 _ rfl))
noncomputable def d_X9_searchCures_l10b (x0 : Nat) (x1 : Int32) (x2 : Int32) (x3 : Int32) (m : dc_M) : Option ((Int32 × Int32 × dc_M) ⊕ dc_M) :=
  (if (Int32.toInt (m.1 (m.2.2.1 x0 7) 1)) ≤ (Int32.toInt x3) then some (Sum.inr ((dc_wi m x0 16 x2))) else (d_X9_searchCures_l24 x0 x1 x3 x2 (0 : Int32) m))
noncomputable def d_X9_searchCures_l10s (x0 : Nat) (x1 : Int32) : (Int32 × Int32 × dc_M) → Option ((Int32 × Int32 × dc_M) ⊕ dc_M) := fun s => d_X9_searchCures_l10b x0 x1 s.1 s.2.1 s.2.2
noncomputable def d_X9_searchCures_l10 (x0 : Nat) (x1 : Int32) (x2 : Int32) (x3 : Int32) (m : dc_M) : Option dc_M := dc_lp (d_X9_searchCures_l10s x0 x1) (x2, x3, m)
set_option maxHeartbeats 8000000 in
theorem k_X9_searchCures_l10 {u : Nat} {Φ : (Option dc_M) → Option Value → dc_M → Prop} (x0 : Nat) (x1 : Int32) (kR : ∀  (m : dc_M), Φ (some (m)) (none) m) : ∀ (N : Nat), ∀ (x2 : Int32) (x3 : Int32) (m : dc_M) (lv : ab_L), ab_lk lv 0 = some (.ref x0) → ab_lk lv 1 = some (.int x1) → ab_lk lv 2 = some (.int x2) → ab_lk lv 3 = some (.int x3) → dc_pv u N ab_M_X9_searchCures 10 lv [] m (Φ (d_X9_searchCures_l10 x0 x1 x2 x3 m)) := by
  intro N
  induction N with
  | zero => intros; exact dc_pv_zero
  | succ N ih =>
    intro x2 x3 m lv f0 f1 f2 f3
    refine dc_ok (C := C_X9_searchCures) (S := S_X9_searchCures) CO_X9_searchCures 400 10 [(0, .ref x0), (1, .int x1), (2, .int x2), (3, .int x3)] lv [] m (dc_sub_cons f0 (dc_sub_cons f1 (dc_sub_cons f2 (dc_sub_cons f3 (dc_sub_nil))))) ?_
    unfold d_X9_searchCures_l10
    rw [dc_lp_eq]
    show (fun t x => dc_lf u N ab_M_X9_searchCures (Φ (Option.bind t (dc_bk (d_X9_searchCures_l10s x0 x1)))) x) (d_X9_searchCures_l10b x0 x1 x2 x3 m) _
    dsimp only
    unfold d_X9_searchCures_l10b
    refine dg_s (pc' := 11) [.int x3] rfl (fun _ => rfl) rfl ?_
    refine dg_s (pc' := 12) [.ref x0, .int x3] rfl (fun _ => rfl) rfl ?_
    refine dg_s (pc' := 15) [.ref (m.2.2.1 x0 7), .int x3] rfl (fun _ => rfl) rfl ?_
    refine dg_s (pc' := 18) [.int (m.1 (m.2.2.1 x0 7) 1), .int x3] rfl (fun _ => rfl) rfl ?_
    refine dw_if (fun t => Φ (Option.bind t (dc_bk (d_X9_searchCures_l10s x0 x1)))) ((Int32.toInt (m.1 (m.2.2.1 x0 7) 1)) ≤ (Int32.toInt x3)) [] 90 21 rfl (fun _ => rfl) (fun c0 => ?_) (fun c0 => ?_)
    · refine dw_g rfl ?_
      refine dg_s (pc' := 91) [.ref x0] rfl (fun _ => rfl) rfl ?_
      refine dg_s (pc' := 92) [.int x2, .ref x0] rfl (fun _ => rfl) rfl ?_
      refine dg_m (pc' := 95) (dc_wi m x0 16 x2) [] rfl (fun _ => rfl) rfl ?_
      exact dw_r (some (.inl (none, (dc_wi m x0 16 x2)))) rfl (fun _ => rfl) (kR _)
    · refine dw_g rfl ?_
      refine dg_s (pc' := 22) [.int (0 : Int32)] rfl (fun _ => rfl) rfl ?_
      refine dw_L (pc' := 24) [(4, .int (0 : Int32)), (0, .ref x0), (1, .int x1), (2, .int x2), (3, .int x3)] [] rfl (fun _ => rfl) ?_
      exact dw_j rfl (fun lv1 hv => k_X9_searchCures_l24 (Φ := (fun t => Φ (Option.bind t (dc_bk (d_X9_searchCures_l10s x0 x1))))) x0 x1 x3 (fun _b => kR _b) N ih x2 (0 : Int32) m lv1 (hv.1 _ rfl) (hv.2.1 _ rfl) (hv.2.2.1 _ rfl) (hv.2.2.2.1 _ rfl) (hv.2.2.2.2.1 _ rfl))
noncomputable def d_X9_searchCures (x0 : Nat) (x1 : Int32) (m : dc_M) : Option dc_M :=
  (d_X9_searchCures_l10 x0 x1 (0 : Int32) (0 : Int32) (dc_wi m x0 15 (-4 : Int32)))
set_option maxHeartbeats 8000000 in
theorem k_X9_searchCures {u : Nat} {N : Nat} {Φ : (Option dc_M) → Option Value → dc_M → Prop} (x0 : Nat) (x1 : Int32) (m : dc_M) (kR : ∀  (m : dc_M), Φ (some (m)) (none) m)  {lv : ab_L} (f0 : ab_lk lv 0 = some (.ref x0)) (f1 : ab_lk lv 1 = some (.int x1)) : dc_pv u N ab_M_X9_searchCures 0 lv [] m (Φ (d_X9_searchCures x0 x1 m)) := by
  refine dc_pv.mono (dc_ok (C := C_X9_searchCures) (S := S_X9_searchCures) CO_X9_searchCures 400 0 [(0, .ref x0), (1, .int x1)] lv [] m (dc_sub_cons f0 (dc_sub_cons f1 (dc_sub_nil))) ?_) (Nat.le_succ N)
  unfold d_X9_searchCures
  refine dg_s (pc' := 1) [.ref x0] rfl (fun _ => rfl) rfl ?_
  refine dg_s (pc' := 3) [.int (-4 : Int32), .ref x0] rfl (fun _ => rfl) rfl ?_
  refine dg_m (pc' := 6) (dc_wi m x0 15 (-4 : Int32)) [] rfl (fun _ => rfl) rfl ?_
  refine dg_s (pc' := 7) [.int (0 : Int32)] rfl (fun _ => rfl) rfl ?_
  refine dg_L (pc' := 8) [(2, .int (0 : Int32)), (0, .ref x0), (1, .int x1)] [] rfl (fun _ => rfl) rfl ?_
  refine dg_s (pc' := 9) [.int (0 : Int32)] rfl (fun _ => rfl) rfl ?_
  refine dw_L (pc' := 10) [(3, .int (0 : Int32)), (2, .int (0 : Int32)), (0, .ref x0), (1, .int x1)] [] rfl (fun _ => rfl) ?_
  exact dw_j rfl (fun lv1 hv => k_X9_searchCures_l10 (Φ := (fun t => Φ t)) x0 x1 (fun _b => kR _b) N  (0 : Int32) (0 : Int32) (dc_wi m x0 15 (-4 : Int32)) lv1 (hv.1 _ rfl) (hv.2.1 _ rfl) (hv.2.2.1 _ rfl) (hv.2.2.2.1 _ rfl))
noncomputable def H_X9_searchCures : dc_H := fun As m k => match As with
  | [.ref x0, .int x1] => (d_X9_searchCures x0 x1 m).bind (fun q => k (none) q)
  | _ => dc_kz
theorem H_X9_searchCures_ok {u : Nat} : dc_cok u 143 H_X9_searchCures := fun M' hG N As m k P hz hP => by
  obtain rfl : ab_M_X9_searchCures = M' := Option.some.inj hG
  unfold H_X9_searchCures at hP
  split at hP
  · rename_i x0 x1
    exact dc_pv.imp (k_X9_searchCures (Φ := fun (t : Option dc_M) r m' => P (t.bind (fun q => k (none) q)) → P (k r m')) x0 x1 m (fun _ h => h) rfl rfl) (fun r m' h => h hP)
  · exact absurd hP hz
noncomputable def C_X9_cures : List (Nat × dc_H) := [(41, H_X3_hasRoomForCure), (135, H_X9_isRight), (143, H_X9_searchCures)]
theorem CO_X9_cures {u : Nat} : dc_CO u C_X9_cures := dc_CO_cons H_X3_hasRoomForCure_ok (dc_CO_cons H_X9_isRight_ok (dc_CO_cons H_X9_searchCures_ok (dc_CO_nil)))
def S_X9_cures : List (Nat × List Nat) := [(69, [0, 1]), (85, [0, 1]), (88, [0, 1])]
noncomputable def d_X9_cures_b88 (x0 : Nat) (x1 : Int32) (m : dc_M) : Option (Int32 × dc_M) :=
  (if ¬ (Int32.toInt x1) = 0 then some (((m.1 x0 16), m)) else some (((m.1 x0 15), m)))
set_option maxHeartbeats 8000000 in
theorem k_X9_cures_b88 {u : Nat} {N : Nat} {Φ : (Option (Int32 × dc_M)) → Option Value → dc_M → Prop} (x0 : Nat) (x1 : Int32) (m : dc_M) (kR : ∀ (v : Int32) (m : dc_M), Φ (some ((v, m))) (some (.int v)) m)  {lv : ab_L} (f0 : ab_lk lv 0 = some (.ref x0)) (f1 : ab_lk lv 1 = some (.int x1)) : dc_pv u N ab_M_X9_cures 88 lv [] m (Φ (d_X9_cures_b88 x0 x1 m)) := by
  refine dc_pv.mono (dc_ok (C := C_X9_cures) (S := S_X9_cures) CO_X9_cures 400 88 [(0, .ref x0), (1, .int x1)] lv [] m (dc_sub_cons f0 (dc_sub_cons f1 (dc_sub_nil))) ?_) (Nat.le_succ N)
  unfold d_X9_cures_b88
  refine dg_s (pc' := 89) [.int x1] rfl (fun _ => rfl) rfl ?_
  refine dw_if (fun t => Φ t) (¬ (Int32.toInt x1) = 0) [] 99 92 rfl (fun _ => rfl) (fun c0 => ?_) (fun c0 => ?_)
  · refine dw_g rfl ?_
    refine dg_s (pc' := 100) [.ref x0] rfl (fun _ => rfl) rfl ?_
    refine dg_s (pc' := 103) [.int (m.1 x0 16)] rfl (fun _ => rfl) rfl ?_
    exact dw_r (some (.inl (some (.int (m.1 x0 16)), m))) rfl (fun _ => rfl) (kR _ _)
  · refine dw_g rfl ?_
    refine dg_s (pc' := 93) [.ref x0] rfl (fun _ => rfl) rfl ?_
    refine dg_s (pc' := 96) [.int (m.1 x0 15)] rfl (fun _ => rfl) rfl ?_
    refine dg_s (pc' := 103) [.int (m.1 x0 15)] rfl (fun _ => rfl) rfl ?_
    exact dw_r (some (.inl (some (.int (m.1 x0 15)), m))) rfl (fun _ => rfl) (kR _ _)
noncomputable def d_X9_cures_b85 (x0 : Nat) (x1 : Int32) (s0 : Int32) (s1 : Nat) (m : dc_M) : Option (Int32 × dc_M) :=
  ((d_X9_searchCures s1 s0 m).bind (fun q1 => (d_X9_cures_b88 x0 x1 q1)))
set_option maxHeartbeats 8000000 in
theorem k_X9_cures_b85 {u : Nat} {N : Nat} {Φ : (Option (Int32 × dc_M)) → Option Value → dc_M → Prop} (x0 : Nat) (x1 : Int32) (s0 : Int32) (s1 : Nat) (m : dc_M) (kR : ∀ (v : Int32) (m : dc_M), Φ (some ((v, m))) (some (.int v)) m)  {lv : ab_L} (f0 : ab_lk lv 0 = some (.ref x0)) (f1 : ab_lk lv 1 = some (.int x1)) : dc_pv u N ab_M_X9_cures 85 lv [.int s0, .ref s1] m (Φ (d_X9_cures_b85 x0 x1 s0 s1 m)) := by
  refine dc_pv.mono (dc_ok (C := C_X9_cures) (S := S_X9_cures) CO_X9_cures 400 85 [(0, .ref x0), (1, .int x1)] lv [.int s0, .ref s1] m (dc_sub_cons f0 (dc_sub_cons f1 (dc_sub_nil))) ?_) (Nat.le_succ N)
  unfold d_X9_cures_b85
  refine dw_b (fun t => Φ t) (pc' := 88) (fun q1 => []) (fun q1 => q1) rfl (fun _ => rfl) (fun q1 => ?_)
  exact dw_j rfl (fun lv1 hv => k_X9_cures_b88 (Φ := (fun t => Φ t)) x0 x1 q1 (fun _a _b => kR _a _b)  (hv.1 _ rfl) (hv.2.1 _ rfl))
noncomputable def d_X9_cures_b69 (x0 : Nat) (x1 : Int32) (s0 : Int32) (m : dc_M) : Option (Int32 × dc_M) :=
  (if ¬ (Int32.toInt s0) = 0 then (d_X9_cures_b88 x0 x1 m) else (if ¬ (Int32.toInt x1) = 1 then (d_X9_cures_b85 x0 x1 (0 : Int32) x0 m) else (d_X9_cures_b85 x0 x1 (1 : Int32) x0 m)))
set_option maxHeartbeats 8000000 in
theorem k_X9_cures_b69 {u : Nat} {N : Nat} {Φ : (Option (Int32 × dc_M)) → Option Value → dc_M → Prop} (x0 : Nat) (x1 : Int32) (s0 : Int32) (m : dc_M) (kR : ∀ (v : Int32) (m : dc_M), Φ (some ((v, m))) (some (.int v)) m)  {lv : ab_L} (f0 : ab_lk lv 0 = some (.ref x0)) (f1 : ab_lk lv 1 = some (.int x1)) : dc_pv u N ab_M_X9_cures 69 lv [.int s0] m (Φ (d_X9_cures_b69 x0 x1 s0 m)) := by
  refine dc_pv.mono (dc_ok (C := C_X9_cures) (S := S_X9_cures) CO_X9_cures 400 69 [(0, .ref x0), (1, .int x1)] lv [.int s0] m (dc_sub_cons f0 (dc_sub_cons f1 (dc_sub_nil))) ?_) (Nat.le_succ N)
  unfold d_X9_cures_b69
  refine dg_L (pc' := 70) [(2, .int s0), (0, .ref x0), (1, .int x1)] [] rfl (fun _ => rfl) rfl ?_
  refine dg_s (pc' := 71) [.int s0] rfl (fun _ => rfl) rfl ?_
  refine dw_if (fun t => Φ t) (¬ (Int32.toInt s0) = 0) [] 88 74 rfl (fun _ => rfl) (fun c0 => ?_) (fun c0 => ?_)
  · exact dw_j rfl (fun lv1 hv => k_X9_cures_b88 (Φ := (fun t => Φ t)) x0 x1 m (fun _a _b => kR _a _b)  (hv.1 _ rfl) (hv.2.1 _ rfl))
  · refine dw_g rfl ?_
    refine dg_s (pc' := 75) [.ref x0] rfl (fun _ => rfl) rfl ?_
    refine dg_s (pc' := 76) [.int x1, .ref x0] rfl (fun _ => rfl) rfl ?_
    refine dg_s (pc' := 77) [.int (1 : Int32), .int x1, .ref x0] rfl (fun _ => rfl) rfl ?_
    refine dw_if (fun t => Φ t) (¬ (Int32.toInt x1) = 1) [.ref x0] 84 80 rfl (fun _ => rfl) (fun c1 => ?_) (fun c1 => ?_)
    · refine dw_g rfl ?_
      refine dw_s (pc' := 85) [.int (0 : Int32), .ref x0] rfl (fun _ => rfl) ?_
      exact dw_j rfl (fun lv1 hv => k_X9_cures_b85 (Φ := (fun t => Φ t)) x0 x1 (0 : Int32) x0 m (fun _a _b => kR _a _b)  (hv.1 _ rfl) (hv.2.1 _ rfl))
    · refine dw_g rfl ?_
      refine dg_s (pc' := 81) [.int (1 : Int32), .ref x0] rfl (fun _ => rfl) rfl ?_
      refine dw_s (pc' := 85) [.int (1 : Int32), .ref x0] rfl (fun _ => rfl) ?_
      exact dw_j rfl (fun lv1 hv => k_X9_cures_b85 (Φ := (fun t => Φ t)) x0 x1 (1 : Int32) x0 m (fun _a _b => kR _a _b)  (hv.1 _ rfl) (hv.2.1 _ rfl))
noncomputable def d_X9_cures (x0 : Nat) (x1 : Int32) (m : dc_M) : Option (Int32 × dc_M) :=
  (if (Int32.toInt x1) < 0 then some (((-1 : Int32), m)) else (if (Int32.toInt x1) ≤ 1 then ((d_X9_isRight x0 m).bind (fun q1 => (if ¬ (Int32.toInt q1.1) = 0 then (if ¬ (Int32.toInt (d_X3_hasRoomForCure (q1.2.2.2.1 x0 7) q1.2)) = 0 then (if ¬ (Int32.toInt x1) = 0 then (if (Int32.toInt (q1.2.1 x0 16)) = (-100) then (d_X9_cures_b69 x0 x1 (0 : Int32) q1.2) else (d_X9_cures_b69 x0 x1 (1 : Int32) q1.2)) else (if (Int32.toInt (q1.2.1 x0 15)) = (-100) then (d_X9_cures_b69 x0 x1 (0 : Int32) q1.2) else (d_X9_cures_b69 x0 x1 (1 : Int32) q1.2))) else some (((-3 : Int32), q1.2))) else some (((-2 : Int32), q1.2))))) else some (((-1 : Int32), m))))
set_option maxHeartbeats 8000000 in
theorem k_X9_cures {u : Nat} {N : Nat} {Φ : (Option (Int32 × dc_M)) → Option Value → dc_M → Prop} (x0 : Nat) (x1 : Int32) (m : dc_M) (kR : ∀ (v : Int32) (m : dc_M), Φ (some ((v, m))) (some (.int v)) m)  {lv : ab_L} (f0 : ab_lk lv 0 = some (.ref x0)) (f1 : ab_lk lv 1 = some (.int x1)) : dc_pv u N ab_M_X9_cures 0 lv [] m (Φ (d_X9_cures x0 x1 m)) := by
  refine dc_pv.mono (dc_ok (C := C_X9_cures) (S := S_X9_cures) CO_X9_cures 400 0 [(0, .ref x0), (1, .int x1)] lv [] m (dc_sub_cons f0 (dc_sub_cons f1 (dc_sub_nil))) ?_) (Nat.le_succ N)
  unfold d_X9_cures
  refine dg_s (pc' := 1) [.int x1] rfl (fun _ => rfl) rfl ?_
  refine dw_if (fun t => Φ t) ((Int32.toInt x1) < 0) [] 9 4 rfl (fun _ => rfl) (fun c0 => ?_) (fun c0 => ?_)
  · refine dw_g rfl ?_
    refine dg_s (pc' := 10) [.int (-1 : Int32)] rfl (fun _ => rfl) rfl ?_
    exact dw_r (some (.inl (some (.int (-1 : Int32)), m))) rfl (fun _ => rfl) (kR _ _)
  · refine dw_g rfl ?_
    refine dg_s (pc' := 5) [.int x1] rfl (fun _ => rfl) rfl ?_
    refine dg_s (pc' := 6) [.int (1 : Int32), .int x1] rfl (fun _ => rfl) rfl ?_
    refine dw_if (fun t => Φ t) ((Int32.toInt x1) ≤ 1) [] 11 9 rfl (fun _ => rfl) (fun c1 => ?_) (fun c1 => ?_)
    · refine dw_g rfl ?_
      refine dg_s (pc' := 12) [.ref x0] rfl (fun _ => rfl) rfl ?_
      refine dw_b (fun t => Φ t) (pc' := 15) (fun q1 => [.int q1.1]) (fun q1 => q1.2) rfl (fun _ => rfl) (fun q1 => ?_)
      refine dw_g rfl ?_
      refine dw_if (fun t => Φ t) (¬ (Int32.toInt q1.1) = 0) [] 21 18 rfl (fun _ => rfl) (fun c2 => ?_) (fun c2 => ?_)
      · refine dw_g rfl ?_
        refine dg_s (pc' := 22) [.ref x0] rfl (fun _ => rfl) rfl ?_
        refine dg_s (pc' := 25) [.ref (q1.2.2.2.1 x0 7)] rfl (fun _ => rfl) rfl ?_
        refine dg_s (pc' := 28) [.int (d_X3_hasRoomForCure (q1.2.2.2.1 x0 7) q1.2)] rfl (fun _ => rfl) rfl ?_
        refine dw_if (fun t => Φ t) (¬ (Int32.toInt (d_X3_hasRoomForCure (q1.2.2.2.1 x0 7) q1.2)) = 0) [] 34 31 rfl (fun _ => rfl) (fun c3 => ?_) (fun c3 => ?_)
        · refine dw_g rfl ?_
          refine dg_s (pc' := 35) [.int x1] rfl (fun _ => rfl) rfl ?_
          refine dw_if (fun t => Φ t) (¬ (Int32.toInt x1) = 0) [] 55 38 rfl (fun _ => rfl) (fun c4 => ?_) (fun c4 => ?_)
          · refine dw_g rfl ?_
            refine dg_s (pc' := 56) [.ref x0] rfl (fun _ => rfl) rfl ?_
            refine dg_s (pc' := 59) [.int (q1.2.1 x0 16)] rfl (fun _ => rfl) rfl ?_
            refine dg_s (pc' := 61) [.int (-100 : Int32), .int (q1.2.1 x0 16)] rfl (fun _ => rfl) rfl ?_
            refine dw_if (fun t => Φ t) ((Int32.toInt (q1.2.1 x0 16)) = (-100)) [] 68 64 rfl (fun _ => rfl) (fun c5 => ?_) (fun c5 => ?_)
            · refine dw_g rfl ?_
              refine dw_s (pc' := 69) [.int (0 : Int32)] rfl (fun _ => rfl) ?_
              exact dw_j rfl (fun lv1 hv => k_X9_cures_b69 (Φ := (fun t => Φ t)) x0 x1 (0 : Int32) q1.2 (fun _a _b => kR _a _b)  (hv.1 _ rfl) (hv.2.1 _ rfl))
            · refine dw_g rfl ?_
              refine dg_s (pc' := 65) [.int (1 : Int32)] rfl (fun _ => rfl) rfl ?_
              refine dw_s (pc' := 69) [.int (1 : Int32)] rfl (fun _ => rfl) ?_
              exact dw_j rfl (fun lv1 hv => k_X9_cures_b69 (Φ := (fun t => Φ t)) x0 x1 (1 : Int32) q1.2 (fun _a _b => kR _a _b)  (hv.1 _ rfl) (hv.2.1 _ rfl))
          · refine dw_g rfl ?_
            refine dg_s (pc' := 39) [.ref x0] rfl (fun _ => rfl) rfl ?_
            refine dg_s (pc' := 42) [.int (q1.2.1 x0 15)] rfl (fun _ => rfl) rfl ?_
            refine dg_s (pc' := 44) [.int (-100 : Int32), .int (q1.2.1 x0 15)] rfl (fun _ => rfl) rfl ?_
            refine dw_if (fun t => Φ t) ((Int32.toInt (q1.2.1 x0 15)) = (-100)) [] 51 47 rfl (fun _ => rfl) (fun c5 => ?_) (fun c5 => ?_)
            · refine dw_g rfl ?_
              refine dg_s (pc' := 52) [.int (0 : Int32)] rfl (fun _ => rfl) rfl ?_
              refine dw_s (pc' := 69) [.int (0 : Int32)] rfl (fun _ => rfl) ?_
              exact dw_j rfl (fun lv1 hv => k_X9_cures_b69 (Φ := (fun t => Φ t)) x0 x1 (0 : Int32) q1.2 (fun _a _b => kR _a _b)  (hv.1 _ rfl) (hv.2.1 _ rfl))
            · refine dw_g rfl ?_
              refine dg_s (pc' := 48) [.int (1 : Int32)] rfl (fun _ => rfl) rfl ?_
              refine dw_s (pc' := 69) [.int (1 : Int32)] rfl (fun _ => rfl) ?_
              exact dw_j rfl (fun lv1 hv => k_X9_cures_b69 (Φ := (fun t => Φ t)) x0 x1 (1 : Int32) q1.2 (fun _a _b => kR _a _b)  (hv.1 _ rfl) (hv.2.1 _ rfl))
        · refine dw_g rfl ?_
          refine dg_s (pc' := 33) [.int (-3 : Int32)] rfl (fun _ => rfl) rfl ?_
          exact dw_r (some (.inl (some (.int (-3 : Int32)), q1.2))) rfl (fun _ => rfl) (kR _ _)
      · refine dw_g rfl ?_
        refine dg_s (pc' := 20) [.int (-2 : Int32)] rfl (fun _ => rfl) rfl ?_
        exact dw_r (some (.inl (some (.int (-2 : Int32)), q1.2))) rfl (fun _ => rfl) (kR _ _)
    · refine dw_g rfl ?_
      refine dg_s (pc' := 10) [.int (-1 : Int32)] rfl (fun _ => rfl) rfl ?_
      exact dw_r (some (.inl (some (.int (-1 : Int32)), m))) rfl (fun _ => rfl) (kR _ _)
noncomputable def H_X9_cures : dc_H := fun As m k => match As with
  | [.ref x0, .int x1] => (d_X9_cures x0 x1 m).bind (fun q => k (some (.int q.1)) q.2)
  | _ => dc_kz
theorem H_X9_cures_ok {u : Nat} : dc_cok u 120 H_X9_cures := fun M' hG N As m k P hz hP => by
  obtain rfl : ab_M_X9_cures = M' := Option.some.inj hG
  unfold H_X9_cures at hP
  split at hP
  · rename_i x0 x1
    exact dc_pv.imp (k_X9_cures (Φ := fun (t : Option (Int32 × dc_M)) r m' => P (t.bind (fun q => k (some (.int q.1)) q.2)) → P (k r m')) x0 x1 m (fun _ _ h => h) rfl rfl) (fun r m' h => h hP)
  · exact absurd hP hz
def C_X9_delay : List (Nat × dc_H) := [(26, H_X3_hasEvent)]
theorem CO_X9_delay {u : Nat} : dc_CO u C_X9_delay := dc_CO_cons H_X3_hasEvent_ok (dc_CO_nil)
def S_X9_delay : List (Nat × List Nat) := []
def d_X9_delay (x0 : Nat) (x1 : Int32) (x2 : Int32) (m : dc_M) : (Int32 × dc_M) :=
  (if (Int32.toInt (d_X3_hasEvent (m.2.2.1 x0 7) x1 m)) = 0 then ((-1 : Int32), m) else (if (Int32.toInt x2) < 1 then ((-1 : Int32), m) else (if (Int32.toInt x2) ≤ 20 then ((m.1 ((m.2.2.1 x0 7) + 8) (Int32.toNatClampNeg x1)), (dc_wi (dc_wi m ((m.2.2.1 x0 7) + 8) (Int32.toNatClampNeg x1) x2) x0 14 (0 : Int32))) else ((-1 : Int32), m))))
set_option maxHeartbeats 8000000 in
theorem k_X9_delay {u : Nat} {N : Nat} {Φ : (Int32 × dc_M) → Option Value → dc_M → Prop} (x0 : Nat) (x1 : Int32) (x2 : Int32) (m : dc_M) (kR : ∀ (v : Int32) (m : dc_M), Φ ((v, m)) (some (.int v)) m)  {lv : ab_L} (f0 : ab_lk lv 0 = some (.ref x0)) (f1 : ab_lk lv 1 = some (.int x1)) (f2 : ab_lk lv 2 = some (.int x2)) : dc_pv u N ab_M_X9_delay 0 lv [] m (Φ (d_X9_delay x0 x1 x2 m)) := by
  refine dc_pv.mono (dc_ok (C := C_X9_delay) (S := S_X9_delay) CO_X9_delay 400 0 [(0, .ref x0), (1, .int x1), (2, .int x2)] lv [] m (dc_sub_cons f0 (dc_sub_cons f1 (dc_sub_cons f2 (dc_sub_nil)))) ?_) (Nat.le_succ N)
  unfold d_X9_delay
  refine dg_s (pc' := 1) [.ref x0] rfl (fun _ => rfl) rfl ?_
  refine dg_s (pc' := 4) [.ref (m.2.2.1 x0 7)] rfl (fun _ => rfl) rfl ?_
  refine dg_s (pc' := 5) [.int x1, .ref (m.2.2.1 x0 7)] rfl (fun _ => rfl) rfl ?_
  refine dg_s (pc' := 8) [.int (d_X3_hasEvent (m.2.2.1 x0 7) x1 m)] rfl (fun _ => rfl) rfl ?_
  refine dw_if (fun t => Φ t) ((Int32.toInt (d_X3_hasEvent (m.2.2.1 x0 7) x1 m)) = 0) [] 22 11 rfl (fun _ => rfl) (fun c0 => ?_) (fun c0 => ?_)
  · refine dw_g rfl ?_
    refine dg_s (pc' := 23) [.int (-1 : Int32)] rfl (fun _ => rfl) rfl ?_
    exact dw_r (some (.inl (some (.int (-1 : Int32)), m))) rfl (fun _ => rfl) (kR _ _)
  · refine dw_g rfl ?_
    refine dg_s (pc' := 12) [.int x2] rfl (fun _ => rfl) rfl ?_
    refine dg_s (pc' := 13) [.int (1 : Int32), .int x2] rfl (fun _ => rfl) rfl ?_
    refine dw_if (fun t => Φ t) ((Int32.toInt x2) < 1) [] 22 16 rfl (fun _ => rfl) (fun c1 => ?_) (fun c1 => ?_)
    · refine dw_g rfl ?_
      refine dg_s (pc' := 23) [.int (-1 : Int32)] rfl (fun _ => rfl) rfl ?_
      exact dw_r (some (.inl (some (.int (-1 : Int32)), m))) rfl (fun _ => rfl) (kR _ _)
    · refine dw_g rfl ?_
      refine dg_s (pc' := 17) [.int x2] rfl (fun _ => rfl) rfl ?_
      refine dg_s (pc' := 19) [.int (20 : Int32), .int x2] rfl (fun _ => rfl) rfl ?_
      refine dw_if (fun t => Φ t) ((Int32.toInt x2) ≤ 20) [] 24 22 rfl (fun _ => rfl) (fun c2 => ?_) (fun c2 => ?_)
      · refine dw_g rfl ?_
        refine dg_s (pc' := 25) [.ref x0] rfl (fun _ => rfl) rfl ?_
        refine dg_s (pc' := 28) [.ref (m.2.2.1 x0 7)] rfl (fun _ => rfl) rfl ?_
        refine dg_s (pc' := 31) [.ref ((m.2.2.1 x0 7) + 8)] rfl (fun _ => rfl) rfl ?_
        refine dg_s (pc' := 32) [.int x1, .ref ((m.2.2.1 x0 7) + 8)] rfl (fun _ => rfl) rfl ?_
        refine dg_s (pc' := 33) [.int (m.1 ((m.2.2.1 x0 7) + 8) (Int32.toNatClampNeg x1))] rfl (fun _ => rfl) rfl ?_
        refine dg_L (pc' := 34) [(3, .int (m.1 ((m.2.2.1 x0 7) + 8) (Int32.toNatClampNeg x1))), (0, .ref x0), (1, .int x1), (2, .int x2)] [] rfl (fun _ => rfl) rfl ?_
        refine dg_s (pc' := 35) [.ref x0] rfl (fun _ => rfl) rfl ?_
        refine dg_s (pc' := 38) [.ref (m.2.2.1 x0 7)] rfl (fun _ => rfl) rfl ?_
        refine dg_s (pc' := 41) [.ref ((m.2.2.1 x0 7) + 8)] rfl (fun _ => rfl) rfl ?_
        refine dg_s (pc' := 42) [.int x1, .ref ((m.2.2.1 x0 7) + 8)] rfl (fun _ => rfl) rfl ?_
        refine dg_s (pc' := 43) [.int x2, .int x1, .ref ((m.2.2.1 x0 7) + 8)] rfl (fun _ => rfl) rfl ?_
        refine dg_m (pc' := 44) (dc_wi m ((m.2.2.1 x0 7) + 8) (Int32.toNatClampNeg x1) x2) [] rfl (fun _ => rfl) rfl ?_
        refine dg_s (pc' := 45) [.ref x0] rfl (fun _ => rfl) rfl ?_
        refine dg_s (pc' := 46) [.int (0 : Int32), .ref x0] rfl (fun _ => rfl) rfl ?_
        refine dg_m (pc' := 49) (dc_wi (dc_wi m ((m.2.2.1 x0 7) + 8) (Int32.toNatClampNeg x1) x2) x0 14 (0 : Int32)) [] rfl (fun _ => rfl) rfl ?_
        refine dg_s (pc' := 50) [.int (m.1 ((m.2.2.1 x0 7) + 8) (Int32.toNatClampNeg x1))] rfl (fun _ => rfl) rfl ?_
        exact dw_r (some (.inl (some (.int (m.1 ((m.2.2.1 x0 7) + 8) (Int32.toNatClampNeg x1))), (dc_wi (dc_wi m ((m.2.2.1 x0 7) + 8) (Int32.toNatClampNeg x1) x2) x0 14 (0 : Int32))))) rfl (fun _ => rfl) (kR _ _)
      · refine dw_g rfl ?_
        refine dg_s (pc' := 23) [.int (-1 : Int32)] rfl (fun _ => rfl) rfl ?_
        exact dw_r (some (.inl (some (.int (-1 : Int32)), m))) rfl (fun _ => rfl) (kR _ _)
def H_X9_delay : dc_H := fun As m k => match As with
  | [.ref x0, .int x1, .int x2] => dc_let (d_X9_delay x0 x1 x2 m) (fun q => k (some (.int q.1)) q.2)
  | _ => dc_kz
theorem H_X9_delay_ok {u : Nat} : dc_cok u 121 H_X9_delay := fun M' hG N As m k P hz hP => by
  obtain rfl : ab_M_X9_delay = M' := Option.some.inj hG
  unfold H_X9_delay at hP
  split at hP
  · rename_i x0 x1 x2
    exact dc_pv.imp (k_X9_delay (Φ := fun (t : (Int32 × dc_M)) r m' => P (dc_let t (fun q => k (some (.int q.1)) q.2)) → P (k r m')) x0 x1 x2 m (fun _ _ h => h) rfl rfl rfl) (fun r m' h => h hP)
  · exact absurd hP hz
noncomputable def C_X9_findRings : List (Nat × dc_H) := [(63, H_X5_find)]
theorem CO_X9_findRings {u : Nat} : dc_CO u C_X9_findRings := dc_CO_cons H_X5_find_ok (dc_CO_nil)
def S_X9_findRings : List (Nat × List Nat) := []
noncomputable def d_X9_findRings (x0 : Nat) (m : dc_M) : Option dc_M :=
  (if ¬ (Int32.toInt (m.1 x0 14)) = 0 then some (m) else ((d_X5_find (x0 + 29) (m.2.2.1 x0 7) m).bind (fun q1 => some ((dc_wi q1 x0 14 (1 : Int32))))))
set_option maxHeartbeats 8000000 in
theorem k_X9_findRings {u : Nat} {N : Nat} {Φ : (Option dc_M) → Option Value → dc_M → Prop} (x0 : Nat) (m : dc_M) (kR : ∀  (m : dc_M), Φ (some (m)) (none) m)  {lv : ab_L} (f0 : ab_lk lv 0 = some (.ref x0)) : dc_pv u N ab_M_X9_findRings 0 lv [] m (Φ (d_X9_findRings x0 m)) := by
  refine dc_pv.mono (dc_ok (C := C_X9_findRings) (S := S_X9_findRings) CO_X9_findRings 400 0 [(0, .ref x0)] lv [] m (dc_sub_cons f0 (dc_sub_nil)) ?_) (Nat.le_succ N)
  unfold d_X9_findRings
  refine dg_s (pc' := 1) [.ref x0] rfl (fun _ => rfl) rfl ?_
  refine dg_s (pc' := 4) [.int (m.1 x0 14)] rfl (fun _ => rfl) rfl ?_
  refine dw_if (fun t => Φ t) (¬ (Int32.toInt (m.1 x0 14)) = 0) [] 23 7 rfl (fun _ => rfl) (fun c0 => ?_) (fun c0 => ?_)
  · refine dw_g rfl ?_
    exact dw_r (some (.inl (none, m))) rfl (fun _ => rfl) (kR _)
  · refine dw_g rfl ?_
    refine dg_s (pc' := 8) [.ref x0] rfl (fun _ => rfl) rfl ?_
    refine dg_s (pc' := 11) [.ref (x0 + 29)] rfl (fun _ => rfl) rfl ?_
    refine dg_s (pc' := 12) [.ref x0, .ref (x0 + 29)] rfl (fun _ => rfl) rfl ?_
    refine dg_s (pc' := 15) [.ref (m.2.2.1 x0 7), .ref (x0 + 29)] rfl (fun _ => rfl) rfl ?_
    refine dw_b (fun t => Φ t) (pc' := 18) (fun q1 => []) (fun q1 => q1) rfl (fun _ => rfl) (fun q1 => ?_)
    refine dw_g rfl ?_
    refine dg_s (pc' := 19) [.ref x0] rfl (fun _ => rfl) rfl ?_
    refine dg_s (pc' := 20) [.int (1 : Int32), .ref x0] rfl (fun _ => rfl) rfl ?_
    refine dg_m (pc' := 23) (dc_wi q1 x0 14 (1 : Int32)) [] rfl (fun _ => rfl) rfl ?_
    exact dw_r (some (.inl (none, (dc_wi q1 x0 14 (1 : Int32))))) rfl (fun _ => rfl) (kR _)
noncomputable def H_X9_findRings : dc_H := fun As m k => match As with
  | [.ref x0] => (d_X9_findRings x0 m).bind (fun q => k (none) q)
  | _ => dc_kz
theorem H_X9_findRings_ok {u : Nat} : dc_cok u 139 H_X9_findRings := fun M' hG N As m k P hz hP => by
  obtain rfl : ab_M_X9_findRings = M' := Option.some.inj hG
  unfold H_X9_findRings at hP
  split at hP
  · rename_i x0
    exact dc_pv.imp (k_X9_findRings (Φ := fun (t : Option dc_M) r m' => P (t.bind (fun q => k (none) q)) → P (k r m')) x0 m (fun _ h => h) rfl) (fun r m' h => h hP)
  · exact absurd hP hz
noncomputable def C_X9_beat : List (Nat × dc_H) := [(139, H_X9_findRings)]
theorem CO_X9_beat {u : Nat} : dc_CO u C_X9_beat := dc_CO_cons H_X9_findRings_ok (dc_CO_nil)
def S_X9_beat : List (Nat × List Nat) := []
noncomputable def d_X9_beat (x0 : Nat) (x1 : Int32) (m : dc_M) : Option (Int32 × dc_M) :=
  (if (Int32.toInt x1) < 0 then some (((-1 : Int32), m)) else (if (Int32.toInt x1) ≤ 2 then ((d_X9_findRings x0 m).bind (fun q1 => (if ¬ (Int32.toInt (q1.1 (x0 + 29) 0)) = 0 then (if ¬ (Int32.toInt (q1.1 (x0 + 29) 2)) = 0 then (if ¬ (Int32.toInt x1) = 0 then (if ¬ (Int32.toInt x1) = 1 then some (((q1.1 (x0 + 29) 3), q1)) else some (((q1.1 (x0 + 29) 2), q1))) else some (((q1.1 (x0 + 29) 1), q1))) else some (((-4 : Int32), q1))) else some (((-2 : Int32), q1))))) else some (((-1 : Int32), m))))
set_option maxHeartbeats 8000000 in
theorem k_X9_beat {u : Nat} {N : Nat} {Φ : (Option (Int32 × dc_M)) → Option Value → dc_M → Prop} (x0 : Nat) (x1 : Int32) (m : dc_M) (kR : ∀ (v : Int32) (m : dc_M), Φ (some ((v, m))) (some (.int v)) m)  {lv : ab_L} (f0 : ab_lk lv 0 = some (.ref x0)) (f1 : ab_lk lv 1 = some (.int x1)) : dc_pv u N ab_M_X9_beat 0 lv [] m (Φ (d_X9_beat x0 x1 m)) := by
  refine dc_pv.mono (dc_ok (C := C_X9_beat) (S := S_X9_beat) CO_X9_beat 400 0 [(0, .ref x0), (1, .int x1)] lv [] m (dc_sub_cons f0 (dc_sub_cons f1 (dc_sub_nil))) ?_) (Nat.le_succ N)
  unfold d_X9_beat
  refine dg_s (pc' := 1) [.int x1] rfl (fun _ => rfl) rfl ?_
  refine dw_if (fun t => Φ t) ((Int32.toInt x1) < 0) [] 9 4 rfl (fun _ => rfl) (fun c0 => ?_) (fun c0 => ?_)
  · refine dw_g rfl ?_
    refine dg_s (pc' := 10) [.int (-1 : Int32)] rfl (fun _ => rfl) rfl ?_
    exact dw_r (some (.inl (some (.int (-1 : Int32)), m))) rfl (fun _ => rfl) (kR _ _)
  · refine dw_g rfl ?_
    refine dg_s (pc' := 5) [.int x1] rfl (fun _ => rfl) rfl ?_
    refine dg_s (pc' := 6) [.int (2 : Int32), .int x1] rfl (fun _ => rfl) rfl ?_
    refine dw_if (fun t => Φ t) ((Int32.toInt x1) ≤ 2) [] 11 9 rfl (fun _ => rfl) (fun c1 => ?_) (fun c1 => ?_)
    · refine dw_g rfl ?_
      refine dg_s (pc' := 12) [.ref x0] rfl (fun _ => rfl) rfl ?_
      refine dw_b (fun t => Φ t) (pc' := 15) (fun q1 => []) (fun q1 => q1) rfl (fun _ => rfl) (fun q1 => ?_)
      refine dw_g rfl ?_
      refine dg_s (pc' := 16) [.ref x0] rfl (fun _ => rfl) rfl ?_
      refine dg_s (pc' := 19) [.ref (x0 + 29)] rfl (fun _ => rfl) rfl ?_
      refine dg_s (pc' := 22) [.int (q1.1 (x0 + 29) 0)] rfl (fun _ => rfl) rfl ?_
      refine dw_if (fun t => Φ t) (¬ (Int32.toInt (q1.1 (x0 + 29) 0)) = 0) [] 28 25 rfl (fun _ => rfl) (fun c2 => ?_) (fun c2 => ?_)
      · refine dw_g rfl ?_
        refine dg_s (pc' := 29) [.ref x0] rfl (fun _ => rfl) rfl ?_
        refine dg_s (pc' := 32) [.ref (x0 + 29)] rfl (fun _ => rfl) rfl ?_
        refine dg_s (pc' := 35) [.int (q1.1 (x0 + 29) 2)] rfl (fun _ => rfl) rfl ?_
        refine dw_if (fun t => Φ t) (¬ (Int32.toInt (q1.1 (x0 + 29) 2)) = 0) [] 41 38 rfl (fun _ => rfl) (fun c3 => ?_) (fun c3 => ?_)
        · refine dw_g rfl ?_
          refine dg_s (pc' := 42) [.int x1] rfl (fun _ => rfl) rfl ?_
          refine dw_if (fun t => Φ t) (¬ (Int32.toInt x1) = 0) [] 55 45 rfl (fun _ => rfl) (fun c4 => ?_) (fun c4 => ?_)
          · refine dw_g rfl ?_
            refine dg_s (pc' := 56) [.int x1] rfl (fun _ => rfl) rfl ?_
            refine dg_s (pc' := 57) [.int (1 : Int32), .int x1] rfl (fun _ => rfl) rfl ?_
            refine dw_if (fun t => Φ t) (¬ (Int32.toInt x1) = 1) [] 70 60 rfl (fun _ => rfl) (fun c5 => ?_) (fun c5 => ?_)
            · refine dw_g rfl ?_
              refine dg_s (pc' := 71) [.ref x0] rfl (fun _ => rfl) rfl ?_
              refine dg_s (pc' := 74) [.ref (x0 + 29)] rfl (fun _ => rfl) rfl ?_
              refine dg_s (pc' := 77) [.int (q1.1 (x0 + 29) 3)] rfl (fun _ => rfl) rfl ?_
              exact dw_r (some (.inl (some (.int (q1.1 (x0 + 29) 3)), q1))) rfl (fun _ => rfl) (kR _ _)
            · refine dw_g rfl ?_
              refine dg_s (pc' := 61) [.ref x0] rfl (fun _ => rfl) rfl ?_
              refine dg_s (pc' := 64) [.ref (x0 + 29)] rfl (fun _ => rfl) rfl ?_
              refine dg_s (pc' := 67) [.int (q1.1 (x0 + 29) 2)] rfl (fun _ => rfl) rfl ?_
              refine dg_s (pc' := 77) [.int (q1.1 (x0 + 29) 2)] rfl (fun _ => rfl) rfl ?_
              exact dw_r (some (.inl (some (.int (q1.1 (x0 + 29) 2)), q1))) rfl (fun _ => rfl) (kR _ _)
          · refine dw_g rfl ?_
            refine dg_s (pc' := 46) [.ref x0] rfl (fun _ => rfl) rfl ?_
            refine dg_s (pc' := 49) [.ref (x0 + 29)] rfl (fun _ => rfl) rfl ?_
            refine dg_s (pc' := 52) [.int (q1.1 (x0 + 29) 1)] rfl (fun _ => rfl) rfl ?_
            refine dg_s (pc' := 77) [.int (q1.1 (x0 + 29) 1)] rfl (fun _ => rfl) rfl ?_
            exact dw_r (some (.inl (some (.int (q1.1 (x0 + 29) 1)), q1))) rfl (fun _ => rfl) (kR _ _)
        · refine dw_g rfl ?_
          refine dg_s (pc' := 40) [.int (-4 : Int32)] rfl (fun _ => rfl) rfl ?_
          exact dw_r (some (.inl (some (.int (-4 : Int32)), q1))) rfl (fun _ => rfl) (kR _ _)
      · refine dw_g rfl ?_
        refine dg_s (pc' := 27) [.int (-2 : Int32)] rfl (fun _ => rfl) rfl ?_
        exact dw_r (some (.inl (some (.int (-2 : Int32)), q1))) rfl (fun _ => rfl) (kR _ _)
    · refine dw_g rfl ?_
      refine dg_s (pc' := 10) [.int (-1 : Int32)] rfl (fun _ => rfl) rfl ?_
      exact dw_r (some (.inl (some (.int (-1 : Int32)), m))) rfl (fun _ => rfl) (kR _ _)
noncomputable def H_X9_beat : dc_H := fun As m k => match As with
  | [.ref x0, .int x1] => (d_X9_beat x0 x1 m).bind (fun q => k (some (.int q.1)) q.2)
  | _ => dc_kz
theorem H_X9_beat_ok {u : Nat} : dc_cok u 122 H_X9_beat := fun M' hG N As m k P hz hP => by
  obtain rfl : ab_M_X9_beat = M' := Option.some.inj hG
  unfold H_X9_beat at hP
  split at hP
  · rename_i x0 x1
    exact dc_pv.imp (k_X9_beat (Φ := fun (t : Option (Int32 × dc_M)) r m' => P (t.bind (fun q => k (some (.int q.1)) q.2)) → P (k r m')) x0 x1 m (fun _ _ h => h) rfl rfl) (fun r m' h => h hP)
  · exact absurd hP hz
noncomputable def C_X9_time : List (Nat × dc_H) := [(26, H_X3_hasEvent), (73, H_X5_endOf), (139, H_X9_findRings)]
theorem CO_X9_time {u : Nat} : dc_CO u C_X9_time := dc_CO_cons H_X3_hasEvent_ok (dc_CO_cons H_X5_endOf_ok (dc_CO_cons H_X9_findRings_ok (dc_CO_nil)))
def S_X9_time : List (Nat × List Nat) := []
noncomputable def d_X9_time (x0 : Nat) (x1 : Int32) (x2 : Int32) (m : dc_M) : Option (Int32 × dc_M) :=
  (if (Int32.toInt (d_X3_hasEvent (m.2.2.1 x0 7) x1 m)) = 0 then some (((-1 : Int32), m)) else (if (Int32.toInt x2) < 1 then some (((-1 : Int32), m)) else (if (Int32.toInt x2) ≤ 50 then ((d_X9_findRings x0 m).bind (fun q1 => (if (Int32.toInt (q1.1 (x0 + 29) 0)) = 0 then some (((-2 : Int32), q1)) else ((d_X5_endOf (x0 + 29) (q1.2.2.1 x0 7) x1 x2 q1).bind (fun q2 => some ((q2.1, q2.2))))))) else some (((-1 : Int32), m)))))
set_option maxHeartbeats 8000000 in
theorem k_X9_time {u : Nat} {N : Nat} {Φ : (Option (Int32 × dc_M)) → Option Value → dc_M → Prop} (x0 : Nat) (x1 : Int32) (x2 : Int32) (m : dc_M) (kR : ∀ (v : Int32) (m : dc_M), Φ (some ((v, m))) (some (.int v)) m)  {lv : ab_L} (f0 : ab_lk lv 0 = some (.ref x0)) (f1 : ab_lk lv 1 = some (.int x1)) (f2 : ab_lk lv 2 = some (.int x2)) : dc_pv u N ab_M_X9_time 0 lv [] m (Φ (d_X9_time x0 x1 x2 m)) := by
  refine dc_pv.mono (dc_ok (C := C_X9_time) (S := S_X9_time) CO_X9_time 400 0 [(0, .ref x0), (1, .int x1), (2, .int x2)] lv [] m (dc_sub_cons f0 (dc_sub_cons f1 (dc_sub_cons f2 (dc_sub_nil)))) ?_) (Nat.le_succ N)
  unfold d_X9_time
  refine dg_s (pc' := 1) [.ref x0] rfl (fun _ => rfl) rfl ?_
  refine dg_s (pc' := 4) [.ref (m.2.2.1 x0 7)] rfl (fun _ => rfl) rfl ?_
  refine dg_s (pc' := 5) [.int x1, .ref (m.2.2.1 x0 7)] rfl (fun _ => rfl) rfl ?_
  refine dg_s (pc' := 8) [.int (d_X3_hasEvent (m.2.2.1 x0 7) x1 m)] rfl (fun _ => rfl) rfl ?_
  refine dw_if (fun t => Φ t) ((Int32.toInt (d_X3_hasEvent (m.2.2.1 x0 7) x1 m)) = 0) [] 22 11 rfl (fun _ => rfl) (fun c0 => ?_) (fun c0 => ?_)
  · refine dw_g rfl ?_
    refine dg_s (pc' := 23) [.int (-1 : Int32)] rfl (fun _ => rfl) rfl ?_
    exact dw_r (some (.inl (some (.int (-1 : Int32)), m))) rfl (fun _ => rfl) (kR _ _)
  · refine dw_g rfl ?_
    refine dg_s (pc' := 12) [.int x2] rfl (fun _ => rfl) rfl ?_
    refine dg_s (pc' := 13) [.int (1 : Int32), .int x2] rfl (fun _ => rfl) rfl ?_
    refine dw_if (fun t => Φ t) ((Int32.toInt x2) < 1) [] 22 16 rfl (fun _ => rfl) (fun c1 => ?_) (fun c1 => ?_)
    · refine dw_g rfl ?_
      refine dg_s (pc' := 23) [.int (-1 : Int32)] rfl (fun _ => rfl) rfl ?_
      exact dw_r (some (.inl (some (.int (-1 : Int32)), m))) rfl (fun _ => rfl) (kR _ _)
    · refine dw_g rfl ?_
      refine dg_s (pc' := 17) [.int x2] rfl (fun _ => rfl) rfl ?_
      refine dg_s (pc' := 19) [.int (50 : Int32), .int x2] rfl (fun _ => rfl) rfl ?_
      refine dw_if (fun t => Φ t) ((Int32.toInt x2) ≤ 50) [] 24 22 rfl (fun _ => rfl) (fun c2 => ?_) (fun c2 => ?_)
      · refine dw_g rfl ?_
        refine dg_s (pc' := 25) [.ref x0] rfl (fun _ => rfl) rfl ?_
        refine dw_b (fun t => Φ t) (pc' := 28) (fun q1 => []) (fun q1 => q1) rfl (fun _ => rfl) (fun q1 => ?_)
        refine dw_g rfl ?_
        refine dg_s (pc' := 29) [.ref x0] rfl (fun _ => rfl) rfl ?_
        refine dg_s (pc' := 32) [.ref (x0 + 29)] rfl (fun _ => rfl) rfl ?_
        refine dg_s (pc' := 35) [.int (q1.1 (x0 + 29) 0)] rfl (fun _ => rfl) rfl ?_
        refine dw_if (fun t => Φ t) ((Int32.toInt (q1.1 (x0 + 29) 0)) = 0) [] 54 38 rfl (fun _ => rfl) (fun c3 => ?_) (fun c3 => ?_)
        · refine dw_g rfl ?_
          refine dg_s (pc' := 56) [.int (-2 : Int32)] rfl (fun _ => rfl) rfl ?_
          exact dw_r (some (.inl (some (.int (-2 : Int32)), q1))) rfl (fun _ => rfl) (kR _ _)
        · refine dw_g rfl ?_
          refine dg_s (pc' := 39) [.ref x0] rfl (fun _ => rfl) rfl ?_
          refine dg_s (pc' := 42) [.ref (x0 + 29)] rfl (fun _ => rfl) rfl ?_
          refine dg_s (pc' := 43) [.ref x0, .ref (x0 + 29)] rfl (fun _ => rfl) rfl ?_
          refine dg_s (pc' := 46) [.ref (q1.2.2.1 x0 7), .ref (x0 + 29)] rfl (fun _ => rfl) rfl ?_
          refine dg_s (pc' := 47) [.int x1, .ref (q1.2.2.1 x0 7), .ref (x0 + 29)] rfl (fun _ => rfl) rfl ?_
          refine dg_s (pc' := 48) [.int x2, .int x1, .ref (q1.2.2.1 x0 7), .ref (x0 + 29)] rfl (fun _ => rfl) rfl ?_
          refine dw_b (fun t => Φ t) (pc' := 51) (fun q2 => [.int q2.1]) (fun q2 => q2.2) rfl (fun _ => rfl) (fun q2 => ?_)
          refine dw_g rfl ?_
          refine dg_s (pc' := 56) [.int q2.1] rfl (fun _ => rfl) rfl ?_
          exact dw_r (some (.inl (some (.int q2.1), q2.2))) rfl (fun _ => rfl) (kR _ _)
      · refine dw_g rfl ?_
        refine dg_s (pc' := 23) [.int (-1 : Int32)] rfl (fun _ => rfl) rfl ?_
        exact dw_r (some (.inl (some (.int (-1 : Int32)), m))) rfl (fun _ => rfl) (kR _ _)
noncomputable def H_X9_time : dc_H := fun As m k => match As with
  | [.ref x0, .int x1, .int x2] => (d_X9_time x0 x1 x2 m).bind (fun q => k (some (.int q.1)) q.2)
  | _ => dc_kz
theorem H_X9_time_ok {u : Nat} : dc_cok u 123 H_X9_time := fun M' hG N As m k P hz hP => by
  obtain rfl : ab_M_X9_time = M' := Option.some.inj hG
  unfold H_X9_time at hP
  split at hP
  · rename_i x0 x1 x2
    exact dc_pv.imp (k_X9_time (Φ := fun (t : Option (Int32 × dc_M)) r m' => P (t.bind (fun q => k (some (.int q.1)) q.2)) → P (k r m')) x0 x1 x2 m (fun _ _ h => h) rfl rfl rfl) (fun r m' h => h hP)
  · exact absurd hP hz
def C_X9_come : List (Nat × dc_H) := [(20, H_X2_add), (18, H_X2_markingOf), (39, H_X3_after), (38, H_X3_canCome), (26, H_X3_hasEvent)]
theorem CO_X9_come {u : Nat} : dc_CO u C_X9_come := dc_CO_cons H_X2_add_ok (dc_CO_cons H_X2_markingOf_ok (dc_CO_cons H_X3_after_ok (dc_CO_cons H_X3_canCome_ok (dc_CO_cons H_X3_hasEvent_ok (dc_CO_nil)))))
def S_X9_come : List (Nat × List Nat) := []
def d_X9_come (x0 : Nat) (x1 : Int32) (m : dc_M) : (Int32 × dc_M) :=
  (if ¬ (Int32.toInt (d_X3_hasEvent (m.2.2.1 x0 7) x1 m)) = 0 then (if ¬ (Int32.toInt (d_X3_canCome (m.2.2.1 x0 7) (d_X2_markingOf (x0 + 36) (m.2.2.1 x0 7) m) x1 m)) = 0 then (dc_let (d_X2_add (x0 + 36) x1 (d_X3_after (m.2.2.1 x0 7) (d_X2_markingOf (x0 + 36) (m.2.2.1 x0 7) m) x1 m) m) (fun q1 => (if (Int32.toInt q1.1) = 0 then ((-3 : Int32), q1.2) else ((q1.2.1 (x0 + 36) 0), q1.2)))) else ((-2 : Int32), m)) else ((-1 : Int32), m))
set_option maxHeartbeats 8000000 in
theorem k_X9_come {u : Nat} {N : Nat} {Φ : (Int32 × dc_M) → Option Value → dc_M → Prop} (x0 : Nat) (x1 : Int32) (m : dc_M) (kR : ∀ (v : Int32) (m : dc_M), Φ ((v, m)) (some (.int v)) m)  {lv : ab_L} (f0 : ab_lk lv 0 = some (.ref x0)) (f1 : ab_lk lv 1 = some (.int x1)) : dc_pv u N ab_M_X9_come 0 lv [] m (Φ (d_X9_come x0 x1 m)) := by
  refine dc_pv.mono (dc_ok (C := C_X9_come) (S := S_X9_come) CO_X9_come 400 0 [(0, .ref x0), (1, .int x1)] lv [] m (dc_sub_cons f0 (dc_sub_cons f1 (dc_sub_nil))) ?_) (Nat.le_succ N)
  unfold d_X9_come
  refine dg_s (pc' := 1) [.ref x0] rfl (fun _ => rfl) rfl ?_
  refine dg_s (pc' := 4) [.ref (m.2.2.1 x0 7)] rfl (fun _ => rfl) rfl ?_
  refine dg_s (pc' := 5) [.int x1, .ref (m.2.2.1 x0 7)] rfl (fun _ => rfl) rfl ?_
  refine dg_s (pc' := 8) [.int (d_X3_hasEvent (m.2.2.1 x0 7) x1 m)] rfl (fun _ => rfl) rfl ?_
  refine dw_if (fun t => Φ t) (¬ (Int32.toInt (d_X3_hasEvent (m.2.2.1 x0 7) x1 m)) = 0) [] 13 11 rfl (fun _ => rfl) (fun c0 => ?_) (fun c0 => ?_)
  · refine dw_g rfl ?_
    refine dg_s (pc' := 14) [.ref x0] rfl (fun _ => rfl) rfl ?_
    refine dg_s (pc' := 17) [.ref (x0 + 36)] rfl (fun _ => rfl) rfl ?_
    refine dg_s (pc' := 18) [.ref x0, .ref (x0 + 36)] rfl (fun _ => rfl) rfl ?_
    refine dg_s (pc' := 21) [.ref (m.2.2.1 x0 7), .ref (x0 + 36)] rfl (fun _ => rfl) rfl ?_
    refine dg_s (pc' := 24) [.int (d_X2_markingOf (x0 + 36) (m.2.2.1 x0 7) m)] rfl (fun _ => rfl) rfl ?_
    refine dg_L (pc' := 25) [(2, .int (d_X2_markingOf (x0 + 36) (m.2.2.1 x0 7) m)), (0, .ref x0), (1, .int x1)] [] rfl (fun _ => rfl) rfl ?_
    refine dg_s (pc' := 26) [.ref x0] rfl (fun _ => rfl) rfl ?_
    refine dg_s (pc' := 29) [.ref (m.2.2.1 x0 7)] rfl (fun _ => rfl) rfl ?_
    refine dg_s (pc' := 30) [.int (d_X2_markingOf (x0 + 36) (m.2.2.1 x0 7) m), .ref (m.2.2.1 x0 7)] rfl (fun _ => rfl) rfl ?_
    refine dg_s (pc' := 31) [.int x1, .int (d_X2_markingOf (x0 + 36) (m.2.2.1 x0 7) m), .ref (m.2.2.1 x0 7)] rfl (fun _ => rfl) rfl ?_
    refine dg_s (pc' := 34) [.int (d_X3_canCome (m.2.2.1 x0 7) (d_X2_markingOf (x0 + 36) (m.2.2.1 x0 7) m) x1 m)] rfl (fun _ => rfl) rfl ?_
    refine dw_if (fun t => Φ t) (¬ (Int32.toInt (d_X3_canCome (m.2.2.1 x0 7) (d_X2_markingOf (x0 + 36) (m.2.2.1 x0 7) m) x1 m)) = 0) [] 40 37 rfl (fun _ => rfl) (fun c1 => ?_) (fun c1 => ?_)
    · refine dw_g rfl ?_
      refine dg_s (pc' := 41) [.ref x0] rfl (fun _ => rfl) rfl ?_
      refine dg_s (pc' := 44) [.ref (x0 + 36)] rfl (fun _ => rfl) rfl ?_
      refine dg_s (pc' := 45) [.int x1, .ref (x0 + 36)] rfl (fun _ => rfl) rfl ?_
      refine dg_s (pc' := 46) [.ref x0, .int x1, .ref (x0 + 36)] rfl (fun _ => rfl) rfl ?_
      refine dg_s (pc' := 49) [.ref (m.2.2.1 x0 7), .int x1, .ref (x0 + 36)] rfl (fun _ => rfl) rfl ?_
      refine dg_s (pc' := 50) [.int (d_X2_markingOf (x0 + 36) (m.2.2.1 x0 7) m), .ref (m.2.2.1 x0 7), .int x1, .ref (x0 + 36)] rfl (fun _ => rfl) rfl ?_
      refine dg_s (pc' := 51) [.int x1, .int (d_X2_markingOf (x0 + 36) (m.2.2.1 x0 7) m), .ref (m.2.2.1 x0 7), .int x1, .ref (x0 + 36)] rfl (fun _ => rfl) rfl ?_
      refine dg_s (pc' := 54) [.int (d_X3_after (m.2.2.1 x0 7) (d_X2_markingOf (x0 + 36) (m.2.2.1 x0 7) m) x1 m), .int x1, .ref (x0 + 36)] rfl (fun _ => rfl) rfl ?_
      refine dw_l (fun t => Φ t) (pc' := 57) (fun q1 => [.int q1.1]) (fun q1 => q1.2) rfl (fun _ => rfl) (fun q1 => ?_)
      refine dw_g rfl ?_
      refine dw_if (fun t => Φ t) ((Int32.toInt q1.1) = 0) [] 70 60 rfl (fun _ => rfl) (fun c2 => ?_) (fun c2 => ?_)
      · refine dw_g rfl ?_
        refine dg_s (pc' := 72) [.int (-3 : Int32)] rfl (fun _ => rfl) rfl ?_
        exact dw_r (some (.inl (some (.int (-3 : Int32)), q1.2))) rfl (fun _ => rfl) (kR _ _)
      · refine dw_g rfl ?_
        refine dg_s (pc' := 61) [.ref x0] rfl (fun _ => rfl) rfl ?_
        refine dg_s (pc' := 64) [.ref (x0 + 36)] rfl (fun _ => rfl) rfl ?_
        refine dg_s (pc' := 67) [.int (q1.2.1 (x0 + 36) 0)] rfl (fun _ => rfl) rfl ?_
        refine dg_s (pc' := 72) [.int (q1.2.1 (x0 + 36) 0)] rfl (fun _ => rfl) rfl ?_
        exact dw_r (some (.inl (some (.int (q1.2.1 (x0 + 36) 0)), q1.2))) rfl (fun _ => rfl) (kR _ _)
    · refine dw_g rfl ?_
      refine dg_s (pc' := 39) [.int (-2 : Int32)] rfl (fun _ => rfl) rfl ?_
      exact dw_r (some (.inl (some (.int (-2 : Int32)), m))) rfl (fun _ => rfl) (kR _ _)
  · refine dw_g rfl ?_
    refine dg_s (pc' := 12) [.int (-1 : Int32)] rfl (fun _ => rfl) rfl ?_
    exact dw_r (some (.inl (some (.int (-1 : Int32)), m))) rfl (fun _ => rfl) (kR _ _)
def H_X9_come : dc_H := fun As m k => match As with
  | [.ref x0, .int x1] => dc_let (d_X9_come x0 x1 m) (fun q => k (some (.int q.1)) q.2)
  | _ => dc_kz
theorem H_X9_come_ok {u : Nat} : dc_cok u 124 H_X9_come := fun M' hG N As m k P hz hP => by
  obtain rfl : ab_M_X9_come = M' := Option.some.inj hG
  unfold H_X9_come at hP
  split at hP
  · rename_i x0 x1
    exact dc_pv.imp (k_X9_come (Φ := fun (t : (Int32 × dc_M)) r m' => P (dc_let t (fun q => k (some (.int q.1)) q.2)) → P (k r m')) x0 x1 m (fun _ _ h => h) rfl rfl) (fun r m' h => h hP)
  · exact absurd hP hz
def C_X9_undo : List (Nat × dc_H) := [(21, H_X2_dropLatest)]
theorem CO_X9_undo {u : Nat} : dc_CO u C_X9_undo := dc_CO_cons H_X2_dropLatest_ok (dc_CO_nil)
def S_X9_undo : List (Nat × List Nat) := []
def d_X9_undo (x0 : Nat) (m : dc_M) : (Int32 × dc_M) :=
  (dc_let (d_X2_dropLatest (x0 + 36) m) (fun q1 => (if (Int32.toInt q1.1) = 0 then ((-4 : Int32), q1.2) else ((q1.2.1 (x0 + 36) 0), q1.2))))
set_option maxHeartbeats 8000000 in
theorem k_X9_undo {u : Nat} {N : Nat} {Φ : (Int32 × dc_M) → Option Value → dc_M → Prop} (x0 : Nat) (m : dc_M) (kR : ∀ (v : Int32) (m : dc_M), Φ ((v, m)) (some (.int v)) m)  {lv : ab_L} (f0 : ab_lk lv 0 = some (.ref x0)) : dc_pv u N ab_M_X9_undo 0 lv [] m (Φ (d_X9_undo x0 m)) := by
  refine dc_pv.mono (dc_ok (C := C_X9_undo) (S := S_X9_undo) CO_X9_undo 400 0 [(0, .ref x0)] lv [] m (dc_sub_cons f0 (dc_sub_nil)) ?_) (Nat.le_succ N)
  unfold d_X9_undo
  refine dg_s (pc' := 1) [.ref x0] rfl (fun _ => rfl) rfl ?_
  refine dg_s (pc' := 4) [.ref (x0 + 36)] rfl (fun _ => rfl) rfl ?_
  refine dw_l (fun t => Φ t) (pc' := 7) (fun q1 => [.int q1.1]) (fun q1 => q1.2) rfl (fun _ => rfl) (fun q1 => ?_)
  refine dw_g rfl ?_
  refine dw_if (fun t => Φ t) ((Int32.toInt q1.1) = 0) [] 20 10 rfl (fun _ => rfl) (fun c0 => ?_) (fun c0 => ?_)
  · refine dw_g rfl ?_
    refine dg_s (pc' := 22) [.int (-4 : Int32)] rfl (fun _ => rfl) rfl ?_
    exact dw_r (some (.inl (some (.int (-4 : Int32)), q1.2))) rfl (fun _ => rfl) (kR _ _)
  · refine dw_g rfl ?_
    refine dg_s (pc' := 11) [.ref x0] rfl (fun _ => rfl) rfl ?_
    refine dg_s (pc' := 14) [.ref (x0 + 36)] rfl (fun _ => rfl) rfl ?_
    refine dg_s (pc' := 17) [.int (q1.2.1 (x0 + 36) 0)] rfl (fun _ => rfl) rfl ?_
    refine dg_s (pc' := 22) [.int (q1.2.1 (x0 + 36) 0)] rfl (fun _ => rfl) rfl ?_
    exact dw_r (some (.inl (some (.int (q1.2.1 (x0 + 36) 0)), q1.2))) rfl (fun _ => rfl) (kR _ _)
def H_X9_undo : dc_H := fun As m k => match As with
  | [.ref x0] => dc_let (d_X9_undo x0 m) (fun q => k (some (.int q.1)) q.2)
  | _ => dc_kz
theorem H_X9_undo_ok {u : Nat} : dc_cok u 125 H_X9_undo := fun M' hG N As m k P hz hP => by
  obtain rfl : ab_M_X9_undo = M' := Option.some.inj hG
  unfold H_X9_undo at hP
  split at hP
  · rename_i x0
    exact dc_pv.imp (k_X9_undo (Φ := fun (t : (Int32 × dc_M)) r m' => P (dc_let t (fun q => k (some (.int q.1)) q.2)) → P (k r m')) x0 m (fun _ _ h => h) rfl) (fun r m' h => h hP)
  · exact absurd hP hz
noncomputable def C_X9_run : List (Nat × dc_H) := [(19, H_X2_latest), (18, H_X2_markingOf), (40, H_X3_readyAt)]
theorem CO_X9_run {u : Nat} : dc_CO u C_X9_run := dc_CO_cons H_X2_latest_ok (dc_CO_cons H_X2_markingOf_ok (dc_CO_cons H_X3_readyAt_ok (dc_CO_nil)))
def S_X9_run : List (Nat × List Nat) := []
noncomputable def d_X9_run (x0 : Nat) (x1 : Int32) (m : dc_M) : Option Int32 :=
  (if (Int32.toInt x1) = 0 then some ((d_X2_markingOf (x0 + 36) (m.2.2.1 x0 7) m)) else (if (Int32.toInt x1) = 1 then ((d_X3_readyAt (m.2.2.1 x0 7) (d_X2_markingOf (x0 + 36) (m.2.2.1 x0 7) m) m).bind (fun q1 => some (q1))) else (if (Int32.toInt x1) = 2 then some ((m.1 (x0 + 36) 0)) else (if (Int32.toInt x1) = 3 then some ((d_X2_latest (x0 + 36) m)) else some ((-1 : Int32))))))
set_option maxHeartbeats 8000000 in
theorem k_X9_run {u : Nat} {N : Nat} {Φ : (Option Int32) → Option Value → dc_M → Prop} (x0 : Nat) (x1 : Int32) (m : dc_M) (kR : ∀ (v : Int32), Φ (some (v)) (some (.int v)) m)  {lv : ab_L} (f0 : ab_lk lv 0 = some (.ref x0)) (f1 : ab_lk lv 1 = some (.int x1)) : dc_pv u N ab_M_X9_run 0 lv [] m (Φ (d_X9_run x0 x1 m)) := by
  refine dc_pv.mono (dc_ok (C := C_X9_run) (S := S_X9_run) CO_X9_run 400 0 [(0, .ref x0), (1, .int x1)] lv [] m (dc_sub_cons f0 (dc_sub_cons f1 (dc_sub_nil))) ?_) (Nat.le_succ N)
  unfold d_X9_run
  refine dg_s (pc' := 1) [.int x1] rfl (fun _ => rfl) rfl ?_
  refine dw_sw (fun t => Φ t) ((Int32.toInt x1)) 79 [(0, 32), (1, 44), (2, 63), (3, 71)] [] rfl (fun _ => rfl) ?_
  refine dw_ts (fun t => Φ t) (fun c0 => ?_) (fun c0 => ?_)
  · refine dw_g rfl ?_
    refine dg_s (pc' := 33) [.ref x0] rfl (fun _ => rfl) rfl ?_
    refine dg_s (pc' := 36) [.ref (x0 + 36)] rfl (fun _ => rfl) rfl ?_
    refine dg_s (pc' := 37) [.ref x0, .ref (x0 + 36)] rfl (fun _ => rfl) rfl ?_
    refine dg_s (pc' := 40) [.ref (m.2.2.1 x0 7), .ref (x0 + 36)] rfl (fun _ => rfl) rfl ?_
    refine dg_s (pc' := 43) [.int (d_X2_markingOf (x0 + 36) (m.2.2.1 x0 7) m)] rfl (fun _ => rfl) rfl ?_
    exact dw_r (some (.inl (some (.int (d_X2_markingOf (x0 + 36) (m.2.2.1 x0 7) m)), m))) rfl (fun _ => rfl) (kR _)
  refine dw_ts (fun t => Φ t) (fun c1 => ?_) (fun c1 => ?_)
  · refine dw_g rfl ?_
    refine dg_s (pc' := 45) [.ref x0] rfl (fun _ => rfl) rfl ?_
    refine dg_s (pc' := 48) [.ref (m.2.2.1 x0 7)] rfl (fun _ => rfl) rfl ?_
    refine dg_s (pc' := 49) [.ref x0, .ref (m.2.2.1 x0 7)] rfl (fun _ => rfl) rfl ?_
    refine dg_s (pc' := 52) [.ref (x0 + 36), .ref (m.2.2.1 x0 7)] rfl (fun _ => rfl) rfl ?_
    refine dg_s (pc' := 53) [.ref x0, .ref (x0 + 36), .ref (m.2.2.1 x0 7)] rfl (fun _ => rfl) rfl ?_
    refine dg_s (pc' := 56) [.ref (m.2.2.1 x0 7), .ref (x0 + 36), .ref (m.2.2.1 x0 7)] rfl (fun _ => rfl) rfl ?_
    refine dg_s (pc' := 59) [.int (d_X2_markingOf (x0 + 36) (m.2.2.1 x0 7) m), .ref (m.2.2.1 x0 7)] rfl (fun _ => rfl) rfl ?_
    refine dw_b (fun t => Φ t) (pc' := 62) (fun q1 => [.int q1]) (fun q1 => m) rfl (fun _ => rfl) (fun q1 => ?_)
    refine dw_g rfl ?_
    exact dw_r (some (.inl (some (.int q1), m))) rfl (fun _ => rfl) (kR _)
  refine dw_ts (fun t => Φ t) (fun c2 => ?_) (fun c2 => ?_)
  · refine dw_g rfl ?_
    refine dg_s (pc' := 64) [.ref x0] rfl (fun _ => rfl) rfl ?_
    refine dg_s (pc' := 67) [.ref (x0 + 36)] rfl (fun _ => rfl) rfl ?_
    refine dg_s (pc' := 70) [.int (m.1 (x0 + 36) 0)] rfl (fun _ => rfl) rfl ?_
    exact dw_r (some (.inl (some (.int (m.1 (x0 + 36) 0)), m))) rfl (fun _ => rfl) (kR _)
  refine dw_ts (fun t => Φ t) (fun c3 => ?_) (fun c3 => ?_)
  · refine dw_g rfl ?_
    refine dg_s (pc' := 72) [.ref x0] rfl (fun _ => rfl) rfl ?_
    refine dg_s (pc' := 75) [.ref (x0 + 36)] rfl (fun _ => rfl) rfl ?_
    refine dg_s (pc' := 78) [.int (d_X2_latest (x0 + 36) m)] rfl (fun _ => rfl) rfl ?_
    exact dw_r (some (.inl (some (.int (d_X2_latest (x0 + 36) m)), m))) rfl (fun _ => rfl) (kR _)
  refine dw_t0 ?_
  refine dw_g rfl ?_
  refine dg_s (pc' := 80) [.int (-1 : Int32)] rfl (fun _ => rfl) rfl ?_
  exact dw_r (some (.inl (some (.int (-1 : Int32)), m))) rfl (fun _ => rfl) (kR _)
noncomputable def H_X9_run : dc_H := fun As m k => match As with
  | [.ref x0, .int x1] => (d_X9_run x0 x1 m).bind (fun q => k (some (.int q)) m)
  | _ => dc_kz
theorem H_X9_run_ok {u : Nat} : dc_cok u 126 H_X9_run := fun M' hG N As m k P hz hP => by
  obtain rfl : ab_M_X9_run = M' := Option.some.inj hG
  unfold H_X9_run at hP
  split at hP
  · rename_i x0 x1
    exact dc_pv.imp (k_X9_run (Φ := fun (t : Option Int32) r m' => P (t.bind (fun q => k (some (.int q)) m)) → P (k r m')) x0 x1 m (fun _  h => h) rfl rfl) (fun r m' h => h hP)
  · exact absurd hP hz
noncomputable def C_X9_sheet : List (Nat × dc_H) := [(77, H_X6_renew), (132, H_X9_isLane), (131, H_X9_isSheet)]
theorem CO_X9_sheet {u : Nat} : dc_CO u C_X9_sheet := dc_CO_cons H_X6_renew_ok (dc_CO_cons H_X9_isLane_ok (dc_CO_cons H_X9_isSheet_ok (dc_CO_nil)))
def S_X9_sheet : List (Nat × List Nat) := []
noncomputable def d_X9_sheet (x0 : Nat) (x1 : Int32) (x2 : Int32) (x3 : Int32) (m : dc_M) : Option (Int32 × dc_M) :=
  (if (Int32.toInt (d_X9_isSheet x1 m)) = 0 then some (((-1 : Int32), m)) else (if (Int32.toInt (d_X9_isLane x2 m)) = 0 then some (((-1 : Int32), m)) else (if (Int32.toInt x3) ≤ 64 then (if 0 ≤ (Int32.toInt x3) then ((d_X6_renew (m.2.2.1 (x0 + 39) (Int32.toNatClampNeg x1)) x2 x3 m).bind (fun q1 => some (((1 : Int32), q1)))) else some (((-14 : Int32), m))) else some (((-1 : Int32), m)))))
set_option maxHeartbeats 8000000 in
theorem k_X9_sheet {u : Nat} {N : Nat} {Φ : (Option (Int32 × dc_M)) → Option Value → dc_M → Prop} (x0 : Nat) (x1 : Int32) (x2 : Int32) (x3 : Int32) (m : dc_M) (kR : ∀ (v : Int32) (m : dc_M), Φ (some ((v, m))) (some (.int v)) m)  {lv : ab_L} (f0 : ab_lk lv 0 = some (.ref x0)) (f1 : ab_lk lv 1 = some (.int x1)) (f2 : ab_lk lv 2 = some (.int x2)) (f3 : ab_lk lv 3 = some (.int x3)) : dc_pv u N ab_M_X9_sheet 0 lv [] m (Φ (d_X9_sheet x0 x1 x2 x3 m)) := by
  refine dc_pv.mono (dc_ok (C := C_X9_sheet) (S := S_X9_sheet) CO_X9_sheet 400 0 [(0, .ref x0), (1, .int x1), (2, .int x2), (3, .int x3)] lv [] m (dc_sub_cons f0 (dc_sub_cons f1 (dc_sub_cons f2 (dc_sub_cons f3 (dc_sub_nil))))) ?_) (Nat.le_succ N)
  unfold d_X9_sheet
  refine dg_s (pc' := 1) [.int x1] rfl (fun _ => rfl) rfl ?_
  refine dg_s (pc' := 4) [.int (d_X9_isSheet x1 m)] rfl (fun _ => rfl) rfl ?_
  refine dw_if (fun t => Φ t) ((Int32.toInt (d_X9_isSheet x1 m)) = 0) [] 20 7 rfl (fun _ => rfl) (fun c0 => ?_) (fun c0 => ?_)
  · refine dw_g rfl ?_
    refine dg_s (pc' := 21) [.int (-1 : Int32)] rfl (fun _ => rfl) rfl ?_
    exact dw_r (some (.inl (some (.int (-1 : Int32)), m))) rfl (fun _ => rfl) (kR _ _)
  · refine dw_g rfl ?_
    refine dg_s (pc' := 8) [.int x2] rfl (fun _ => rfl) rfl ?_
    refine dg_s (pc' := 11) [.int (d_X9_isLane x2 m)] rfl (fun _ => rfl) rfl ?_
    refine dw_if (fun t => Φ t) ((Int32.toInt (d_X9_isLane x2 m)) = 0) [] 20 14 rfl (fun _ => rfl) (fun c1 => ?_) (fun c1 => ?_)
    · refine dw_g rfl ?_
      refine dg_s (pc' := 21) [.int (-1 : Int32)] rfl (fun _ => rfl) rfl ?_
      exact dw_r (some (.inl (some (.int (-1 : Int32)), m))) rfl (fun _ => rfl) (kR _ _)
    · refine dw_g rfl ?_
      refine dg_s (pc' := 15) [.int x3] rfl (fun _ => rfl) rfl ?_
      refine dg_s (pc' := 17) [.int (64 : Int32), .int x3] rfl (fun _ => rfl) rfl ?_
      refine dw_if (fun t => Φ t) ((Int32.toInt x3) ≤ 64) [] 22 20 rfl (fun _ => rfl) (fun c2 => ?_) (fun c2 => ?_)
      · refine dw_g rfl ?_
        refine dg_s (pc' := 23) [.int x3] rfl (fun _ => rfl) rfl ?_
        refine dw_if (fun t => Φ t) (0 ≤ (Int32.toInt x3)) [] 29 26 rfl (fun _ => rfl) (fun c3 => ?_) (fun c3 => ?_)
        · refine dw_g rfl ?_
          refine dg_s (pc' := 30) [.ref x0] rfl (fun _ => rfl) rfl ?_
          refine dg_s (pc' := 33) [.ref (x0 + 39)] rfl (fun _ => rfl) rfl ?_
          refine dg_s (pc' := 34) [.int x1, .ref (x0 + 39)] rfl (fun _ => rfl) rfl ?_
          refine dg_s (pc' := 35) [.ref (m.2.2.1 (x0 + 39) (Int32.toNatClampNeg x1))] rfl (fun _ => rfl) rfl ?_
          refine dg_s (pc' := 36) [.int x2, .ref (m.2.2.1 (x0 + 39) (Int32.toNatClampNeg x1))] rfl (fun _ => rfl) rfl ?_
          refine dg_s (pc' := 37) [.int x3, .int x2, .ref (m.2.2.1 (x0 + 39) (Int32.toNatClampNeg x1))] rfl (fun _ => rfl) rfl ?_
          refine dw_b (fun t => Φ t) (pc' := 40) (fun q1 => []) (fun q1 => q1) rfl (fun _ => rfl) (fun q1 => ?_)
          refine dw_g rfl ?_
          refine dg_s (pc' := 41) [.int (1 : Int32)] rfl (fun _ => rfl) rfl ?_
          exact dw_r (some (.inl (some (.int (1 : Int32)), q1))) rfl (fun _ => rfl) (kR _ _)
        · refine dw_g rfl ?_
          refine dg_s (pc' := 28) [.int (-14 : Int32)] rfl (fun _ => rfl) rfl ?_
          exact dw_r (some (.inl (some (.int (-14 : Int32)), m))) rfl (fun _ => rfl) (kR _ _)
      · refine dw_g rfl ?_
        refine dg_s (pc' := 21) [.int (-1 : Int32)] rfl (fun _ => rfl) rfl ?_
        exact dw_r (some (.inl (some (.int (-1 : Int32)), m))) rfl (fun _ => rfl) (kR _ _)
noncomputable def H_X9_sheet : dc_H := fun As m k => match As with
  | [.ref x0, .int x1, .int x2, .int x3] => (d_X9_sheet x0 x1 x2 x3 m).bind (fun q => k (some (.int q.1)) q.2)
  | _ => dc_kz
theorem H_X9_sheet_ok {u : Nat} : dc_cok u 127 H_X9_sheet := fun M' hG N As m k P hz hP => by
  obtain rfl : ab_M_X9_sheet = M' := Option.some.inj hG
  unfold H_X9_sheet at hP
  split at hP
  · rename_i x0 x1 x2 x3
    exact dc_pv.imp (k_X9_sheet (Φ := fun (t : Option (Int32 × dc_M)) r m' => P (t.bind (fun q => k (some (.int q.1)) q.2)) → P (k r m')) x0 x1 x2 x3 m (fun _ _ h => h) rfl rfl rfl rfl) (fun r m' h => h hP)
  · exact absurd hP hz
def C_X9_lay : List (Nat × dc_H) := [(79, H_X6_hasCells), (76, H_X6_isNothing), (80, H_X6_put), (131, H_X9_isSheet)]
theorem CO_X9_lay {u : Nat} : dc_CO u C_X9_lay := dc_CO_cons H_X6_hasCells_ok (dc_CO_cons H_X6_isNothing_ok (dc_CO_cons H_X6_put_ok (dc_CO_cons H_X9_isSheet_ok (dc_CO_nil))))
def S_X9_lay : List (Nat × List Nat) := []
def d_X9_lay (x0 : Nat) (x1 : Int32) (x2 : Int32) (x3 : Int32) (m : dc_M) : (Int32 × dc_M) :=
  (if ¬ (Int32.toInt (d_X9_isSheet x1 m)) = 0 then (if (Int32.toInt (d_X6_isNothing (m.2.2.1 (x0 + 39) (Int32.toNatClampNeg x1)) m)) = 0 then (if ¬ (Int32.toInt (d_X6_hasCells (m.2.2.1 (x0 + 39) (Int32.toNatClampNeg x1)) x2 (1 : Int32) m)) = 0 then (dc_let (d_X6_put (m.2.2.1 (x0 + 39) (Int32.toNatClampNeg x1)) x2 x3 m) (fun q1 => ((1 : Int32), q1))) else ((-12 : Int32), m)) else ((-11 : Int32), m)) else ((-1 : Int32), m))
set_option maxHeartbeats 8000000 in
theorem k_X9_lay {u : Nat} {N : Nat} {Φ : (Int32 × dc_M) → Option Value → dc_M → Prop} (x0 : Nat) (x1 : Int32) (x2 : Int32) (x3 : Int32) (m : dc_M) (kR : ∀ (v : Int32) (m : dc_M), Φ ((v, m)) (some (.int v)) m)  {lv : ab_L} (f0 : ab_lk lv 0 = some (.ref x0)) (f1 : ab_lk lv 1 = some (.int x1)) (f2 : ab_lk lv 2 = some (.int x2)) (f3 : ab_lk lv 3 = some (.int x3)) : dc_pv u N ab_M_X9_lay 0 lv [] m (Φ (d_X9_lay x0 x1 x2 x3 m)) := by
  refine dc_pv.mono (dc_ok (C := C_X9_lay) (S := S_X9_lay) CO_X9_lay 400 0 [(0, .ref x0), (1, .int x1), (2, .int x2), (3, .int x3)] lv [] m (dc_sub_cons f0 (dc_sub_cons f1 (dc_sub_cons f2 (dc_sub_cons f3 (dc_sub_nil))))) ?_) (Nat.le_succ N)
  unfold d_X9_lay
  refine dg_s (pc' := 1) [.int x1] rfl (fun _ => rfl) rfl ?_
  refine dg_s (pc' := 4) [.int (d_X9_isSheet x1 m)] rfl (fun _ => rfl) rfl ?_
  refine dw_if (fun t => Φ t) (¬ (Int32.toInt (d_X9_isSheet x1 m)) = 0) [] 9 7 rfl (fun _ => rfl) (fun c0 => ?_) (fun c0 => ?_)
  · refine dw_g rfl ?_
    refine dg_s (pc' := 10) [.ref x0] rfl (fun _ => rfl) rfl ?_
    refine dg_s (pc' := 13) [.ref (x0 + 39)] rfl (fun _ => rfl) rfl ?_
    refine dg_s (pc' := 14) [.int x1, .ref (x0 + 39)] rfl (fun _ => rfl) rfl ?_
    refine dg_s (pc' := 15) [.ref (m.2.2.1 (x0 + 39) (Int32.toNatClampNeg x1))] rfl (fun _ => rfl) rfl ?_
    refine dg_L (pc' := 17) [(4, .ref (m.2.2.1 (x0 + 39) (Int32.toNatClampNeg x1))), (0, .ref x0), (1, .int x1), (2, .int x2), (3, .int x3)] [] rfl (fun _ => rfl) rfl ?_
    refine dg_s (pc' := 19) [.ref (m.2.2.1 (x0 + 39) (Int32.toNatClampNeg x1))] rfl (fun _ => rfl) rfl ?_
    refine dg_s (pc' := 22) [.int (d_X6_isNothing (m.2.2.1 (x0 + 39) (Int32.toNatClampNeg x1)) m)] rfl (fun _ => rfl) rfl ?_
    refine dw_if (fun t => Φ t) ((Int32.toInt (d_X6_isNothing (m.2.2.1 (x0 + 39) (Int32.toNatClampNeg x1)) m)) = 0) [] 28 25 rfl (fun _ => rfl) (fun c1 => ?_) (fun c1 => ?_)
    · refine dw_g rfl ?_
      refine dg_s (pc' := 30) [.ref (m.2.2.1 (x0 + 39) (Int32.toNatClampNeg x1))] rfl (fun _ => rfl) rfl ?_
      refine dg_s (pc' := 31) [.int x2, .ref (m.2.2.1 (x0 + 39) (Int32.toNatClampNeg x1))] rfl (fun _ => rfl) rfl ?_
      refine dg_s (pc' := 32) [.int (1 : Int32), .int x2, .ref (m.2.2.1 (x0 + 39) (Int32.toNatClampNeg x1))] rfl (fun _ => rfl) rfl ?_
      refine dg_s (pc' := 35) [.int (d_X6_hasCells (m.2.2.1 (x0 + 39) (Int32.toNatClampNeg x1)) x2 (1 : Int32) m)] rfl (fun _ => rfl) rfl ?_
      refine dw_if (fun t => Φ t) (¬ (Int32.toInt (d_X6_hasCells (m.2.2.1 (x0 + 39) (Int32.toNatClampNeg x1)) x2 (1 : Int32) m)) = 0) [] 41 38 rfl (fun _ => rfl) (fun c2 => ?_) (fun c2 => ?_)
      · refine dw_g rfl ?_
        refine dg_s (pc' := 43) [.ref (m.2.2.1 (x0 + 39) (Int32.toNatClampNeg x1))] rfl (fun _ => rfl) rfl ?_
        refine dg_s (pc' := 44) [.int x2, .ref (m.2.2.1 (x0 + 39) (Int32.toNatClampNeg x1))] rfl (fun _ => rfl) rfl ?_
        refine dg_s (pc' := 45) [.int x3, .int x2, .ref (m.2.2.1 (x0 + 39) (Int32.toNatClampNeg x1))] rfl (fun _ => rfl) rfl ?_
        refine dw_l (fun t => Φ t) (pc' := 48) (fun q1 => []) (fun q1 => q1) rfl (fun _ => rfl) (fun q1 => ?_)
        refine dw_g rfl ?_
        refine dg_s (pc' := 49) [.int (1 : Int32)] rfl (fun _ => rfl) rfl ?_
        exact dw_r (some (.inl (some (.int (1 : Int32)), q1))) rfl (fun _ => rfl) (kR _ _)
      · refine dw_g rfl ?_
        refine dg_s (pc' := 40) [.int (-12 : Int32)] rfl (fun _ => rfl) rfl ?_
        exact dw_r (some (.inl (some (.int (-12 : Int32)), m))) rfl (fun _ => rfl) (kR _ _)
    · refine dw_g rfl ?_
      refine dg_s (pc' := 27) [.int (-11 : Int32)] rfl (fun _ => rfl) rfl ?_
      exact dw_r (some (.inl (some (.int (-11 : Int32)), m))) rfl (fun _ => rfl) (kR _ _)
  · refine dw_g rfl ?_
    refine dg_s (pc' := 8) [.int (-1 : Int32)] rfl (fun _ => rfl) rfl ?_
    exact dw_r (some (.inl (some (.int (-1 : Int32)), m))) rfl (fun _ => rfl) (kR _ _)
def H_X9_lay : dc_H := fun As m k => match As with
  | [.ref x0, .int x1, .int x2, .int x3] => dc_let (d_X9_lay x0 x1 x2 x3 m) (fun q => k (some (.int q.1)) q.2)
  | _ => dc_kz
theorem H_X9_lay_ok {u : Nat} : dc_cok u 128 H_X9_lay := fun M' hG N As m k P hz hP => by
  obtain rfl : ab_M_X9_lay = M' := Option.some.inj hG
  unfold H_X9_lay at hP
  split at hP
  · rename_i x0 x1 x2 x3
    exact dc_pv.imp (k_X9_lay (Φ := fun (t : (Int32 × dc_M)) r m' => P (dc_let t (fun q => k (some (.int q.1)) q.2)) → P (k r m')) x0 x1 x2 x3 m (fun _ _ h => h) rfl rfl rfl rfl) (fun r m' h => h hP)
  · exact absurd hP hz
def C_X9_row : List (Nat × dc_H) := [(39, H_X3_after), (38, H_X3_canCome), (26, H_X3_hasEvent), (78, H_X6_faultAs), (79, H_X6_hasCells), (132, H_X9_isLane), (131, H_X9_isSheet)]
theorem CO_X9_row {u : Nat} : dc_CO u C_X9_row := dc_CO_cons H_X3_after_ok (dc_CO_cons H_X3_canCome_ok (dc_CO_cons H_X3_hasEvent_ok (dc_CO_cons H_X6_faultAs_ok (dc_CO_cons H_X6_hasCells_ok (dc_CO_cons H_X9_isLane_ok (dc_CO_cons H_X9_isSheet_ok (dc_CO_nil)))))))
def S_X9_row : List (Nat × List Nat) := [(86, [0, 3, 4, 5, 7, 8])]
noncomputable def d_X9_row_l86b (x0 : Nat) (x3 : Int32) (x4 : Int32) (x5 : Nat) (x7 : Int32) (x8 : Int32) (m : dc_M) : Option ((Int32 × Int32) ⊕ Int32) :=
  (if (Int32.toInt x4) ≤ (Int32.toInt x8) then some (Sum.inr ((-4 : Int32))) else (if (Int32.toInt (d_X3_hasEvent (m.2.2.1 x0 7) (m.1 (x5 + 1) (Int32.toNatClampNeg (x3 + x8))) m)) = 0 then some (Sum.inr (x8)) else (if ¬ (Int32.toInt (d_X3_canCome (m.2.2.1 x0 7) x7 (m.1 (x5 + 1) (Int32.toNatClampNeg (x3 + x8))) m)) = 0 then some (Sum.inl ((d_X3_after (m.2.2.1 x0 7) x7 (m.1 (x5 + 1) (Int32.toNatClampNeg (x3 + x8))) m), (x8 + (1 : Int32)))) else some (Sum.inr (x8)))))
noncomputable def d_X9_row_l86s (x0 : Nat) (x3 : Int32) (x4 : Int32) (x5 : Nat) (m : dc_M) : (Int32 × Int32) → Option ((Int32 × Int32) ⊕ Int32) := fun s => d_X9_row_l86b x0 x3 x4 x5 s.1 s.2 m
noncomputable def d_X9_row_l86 (x0 : Nat) (x3 : Int32) (x4 : Int32) (x5 : Nat) (x7 : Int32) (x8 : Int32) (m : dc_M) : Option Int32 := dc_lp (d_X9_row_l86s x0 x3 x4 x5 m) (x7, x8)
set_option maxHeartbeats 8000000 in
theorem k_X9_row_l86 {u : Nat} {Φ : (Option Int32) → Option Value → dc_M → Prop} (x0 : Nat) (x3 : Int32) (x4 : Int32) (x5 : Nat) (m : dc_M) (kR : ∀ (v : Int32), Φ (some (v)) (some (.int v)) m) : ∀ (N : Nat), ∀ (x7 : Int32) (x8 : Int32) (lv : ab_L), ab_lk lv 0 = some (.ref x0) → ab_lk lv 3 = some (.int x3) → ab_lk lv 4 = some (.int x4) → ab_lk lv 5 = some (.ref x5) → ab_lk lv 7 = some (.int x7) → ab_lk lv 8 = some (.int x8) → dc_pv u N ab_M_X9_row 86 lv [] m (Φ (d_X9_row_l86 x0 x3 x4 x5 x7 x8 m)) := by
  intro N
  induction N with
  | zero => intros; exact dc_pv_zero
  | succ N ih =>
    intro x7 x8 lv f0 f3 f4 f5 f7 f8
    refine dc_ok (C := C_X9_row) (S := S_X9_row) CO_X9_row 400 86 [(0, .ref x0), (3, .int x3), (4, .int x4), (5, .ref x5), (7, .int x7), (8, .int x8)] lv [] m (dc_sub_cons f0 (dc_sub_cons f3 (dc_sub_cons f4 (dc_sub_cons f5 (dc_sub_cons f7 (dc_sub_cons f8 (dc_sub_nil))))))) ?_
    unfold d_X9_row_l86
    rw [dc_lp_eq]
    show (fun t x => dc_lf u N ab_M_X9_row (Φ (Option.bind t (dc_bk (d_X9_row_l86s x0 x3 x4 x5 m)))) x) (d_X9_row_l86b x0 x3 x4 x5 x7 x8 m) _
    dsimp only
    unfold d_X9_row_l86b
    refine dg_s (pc' := 88) [.int x8] rfl (fun _ => rfl) rfl ?_
    refine dg_s (pc' := 90) [.int x4, .int x8] rfl (fun _ => rfl) rfl ?_
    refine dw_if (fun t => Φ (Option.bind t (dc_bk (d_X9_row_l86s x0 x3 x4 x5 m)))) ((Int32.toInt x4) ≤ (Int32.toInt x8)) [] 153 93 rfl (fun _ => rfl) (fun c0 => ?_) (fun c0 => ?_)
    · refine dw_g rfl ?_
      refine dg_s (pc' := 155) [.int (-4 : Int32)] rfl (fun _ => rfl) rfl ?_
      exact dw_r (some (.inl (some (.int (-4 : Int32)), m))) rfl (fun _ => rfl) (kR _)
    · refine dw_g rfl ?_
      refine dg_s (pc' := 95) [.ref x5] rfl (fun _ => rfl) rfl ?_
      refine dg_s (pc' := 98) [.ref (x5 + 1)] rfl (fun _ => rfl) rfl ?_
      refine dg_s (pc' := 99) [.int x3, .ref (x5 + 1)] rfl (fun _ => rfl) rfl ?_
      refine dg_s (pc' := 101) [.int x8, .int x3, .ref (x5 + 1)] rfl (fun _ => rfl) rfl ?_
      refine dg_s (pc' := 102) [.int (x3 + x8), .ref (x5 + 1)] rfl (fun _ => rfl) rfl ?_
      refine dg_s (pc' := 103) [.int (m.1 (x5 + 1) (Int32.toNatClampNeg (x3 + x8)))] rfl (fun _ => rfl) rfl ?_
      refine dg_L (pc' := 105) [(9, .int (m.1 (x5 + 1) (Int32.toNatClampNeg (x3 + x8)))), (0, .ref x0), (3, .int x3), (4, .int x4), (5, .ref x5), (7, .int x7), (8, .int x8)] [] rfl (fun _ => rfl) rfl ?_
      refine dg_s (pc' := 106) [.ref x0] rfl (fun _ => rfl) rfl ?_
      refine dg_s (pc' := 109) [.ref (m.2.2.1 x0 7)] rfl (fun _ => rfl) rfl ?_
      refine dg_s (pc' := 111) [.int (m.1 (x5 + 1) (Int32.toNatClampNeg (x3 + x8))), .ref (m.2.2.1 x0 7)] rfl (fun _ => rfl) rfl ?_
      refine dg_s (pc' := 114) [.int (d_X3_hasEvent (m.2.2.1 x0 7) (m.1 (x5 + 1) (Int32.toNatClampNeg (x3 + x8))) m)] rfl (fun _ => rfl) rfl ?_
      refine dw_if (fun t => Φ (Option.bind t (dc_bk (d_X9_row_l86s x0 x3 x4 x5 m)))) ((Int32.toInt (d_X3_hasEvent (m.2.2.1 x0 7) (m.1 (x5 + 1) (Int32.toNatClampNeg (x3 + x8))) m)) = 0) [] 131 117 rfl (fun _ => rfl) (fun c1 => ?_) (fun c1 => ?_)
      · refine dw_g rfl ?_
        refine dg_s (pc' := 133) [.int x8] rfl (fun _ => rfl) rfl ?_
        exact dw_r (some (.inl (some (.int x8), m))) rfl (fun _ => rfl) (kR _)
      · refine dw_g rfl ?_
        refine dg_s (pc' := 118) [.ref x0] rfl (fun _ => rfl) rfl ?_
        refine dg_s (pc' := 121) [.ref (m.2.2.1 x0 7)] rfl (fun _ => rfl) rfl ?_
        refine dg_s (pc' := 123) [.int x7, .ref (m.2.2.1 x0 7)] rfl (fun _ => rfl) rfl ?_
        refine dg_s (pc' := 125) [.int (m.1 (x5 + 1) (Int32.toNatClampNeg (x3 + x8))), .int x7, .ref (m.2.2.1 x0 7)] rfl (fun _ => rfl) rfl ?_
        refine dg_s (pc' := 128) [.int (d_X3_canCome (m.2.2.1 x0 7) x7 (m.1 (x5 + 1) (Int32.toNatClampNeg (x3 + x8))) m)] rfl (fun _ => rfl) rfl ?_
        refine dw_if (fun t => Φ (Option.bind t (dc_bk (d_X9_row_l86s x0 x3 x4 x5 m)))) (¬ (Int32.toInt (d_X3_canCome (m.2.2.1 x0 7) x7 (m.1 (x5 + 1) (Int32.toNatClampNeg (x3 + x8))) m)) = 0) [] 134 131 rfl (fun _ => rfl) (fun c2 => ?_) (fun c2 => ?_)
        · refine dw_g rfl ?_
          refine dg_s (pc' := 135) [.ref x0] rfl (fun _ => rfl) rfl ?_
          refine dg_s (pc' := 138) [.ref (m.2.2.1 x0 7)] rfl (fun _ => rfl) rfl ?_
          refine dg_s (pc' := 140) [.int x7, .ref (m.2.2.1 x0 7)] rfl (fun _ => rfl) rfl ?_
          refine dg_s (pc' := 142) [.int (m.1 (x5 + 1) (Int32.toNatClampNeg (x3 + x8))), .int x7, .ref (m.2.2.1 x0 7)] rfl (fun _ => rfl) rfl ?_
          refine dg_s (pc' := 145) [.int (d_X3_after (m.2.2.1 x0 7) x7 (m.1 (x5 + 1) (Int32.toNatClampNeg (x3 + x8))) m)] rfl (fun _ => rfl) rfl ?_
          refine dg_L (pc' := 147) [(7, .int (d_X3_after (m.2.2.1 x0 7) x7 (m.1 (x5 + 1) (Int32.toNatClampNeg (x3 + x8))) m)), (9, .int (m.1 (x5 + 1) (Int32.toNatClampNeg (x3 + x8)))), (0, .ref x0), (3, .int x3), (4, .int x4), (5, .ref x5), (8, .int x8)] [] rfl (fun _ => rfl) rfl ?_
          refine dg_L (pc' := 150) [(8, .int (x8 + (1 : Int32))), (7, .int (d_X3_after (m.2.2.1 x0 7) x7 (m.1 (x5 + 1) (Int32.toNatClampNeg (x3 + x8))) m)), (9, .int (m.1 (x5 + 1) (Int32.toNatClampNeg (x3 + x8)))), (0, .ref x0), (3, .int x3), (4, .int x4), (5, .ref x5)] [] rfl (fun _ => rfl) rfl ?_
          refine dw_s (pc' := 86) [] rfl (fun _ => rfl) ?_
          exact dw_j rfl (fun lv1 hv => ih (d_X3_after (m.2.2.1 x0 7) x7 (m.1 (x5 + 1) (Int32.toNatClampNeg (x3 + x8))) m) (x8 + (1 : Int32)) lv1 (hv.1 _ rfl) (hv.2.1 _ rfl) (hv.2.2.1 _ rfl) (hv.2.2.2.1 _ rfl) (hv.2.2.2.2.1 _ rfl) (hv.2.2.2.2.2.1 _ rfl))
        · refine dw_g rfl ?_
          refine dg_s (pc' := 133) [.int x8] rfl (fun _ => rfl) rfl ?_
          exact dw_r (some (.inl (some (.int x8), m))) rfl (fun _ => rfl) (kR _)
noncomputable def d_X9_row (x0 : Nat) (x1 : Int32) (x2 : Int32) (x3 : Int32) (x4 : Int32) (m : dc_M) : Option Int32 :=
  (if (Int32.toInt (d_X9_isSheet x1 m)) = 0 then some ((-1 : Int32)) else (if (Int32.toInt (d_X9_isLane x2 m)) = 0 then some ((-1 : Int32)) else (if (Int32.toInt x4) < 0 then some ((-1 : Int32)) else (if (Int32.toInt x4) ≤ 64 then (if (Int32.toInt (d_X6_faultAs (m.2.2.1 (x0 + 39) (Int32.toNatClampNeg x1)) x2 m)) = 0 then (if (Int32.toInt x4) ≤ 0 then (d_X9_row_l86 x0 x3 x4 (m.2.2.1 (x0 + 39) (Int32.toNatClampNeg x1)) (m.1 (m.2.2.1 x0 7) 13) (0 : Int32) m) else (if ¬ (Int32.toInt (d_X6_hasCells (m.2.2.1 (x0 + 39) (Int32.toNatClampNeg x1)) x3 x4 m)) = 0 then (d_X9_row_l86 x0 x3 x4 (m.2.2.1 (x0 + 39) (Int32.toNatClampNeg x1)) (m.1 (m.2.2.1 x0 7) 13) (0 : Int32) m) else some ((-12 : Int32)))) else some (((-10 : Int32) - (d_X6_faultAs (m.2.2.1 (x0 + 39) (Int32.toNatClampNeg x1)) x2 m)))) else some ((-1 : Int32))))))
set_option maxHeartbeats 8000000 in
theorem k_X9_row {u : Nat} {N : Nat} {Φ : (Option Int32) → Option Value → dc_M → Prop} (x0 : Nat) (x1 : Int32) (x2 : Int32) (x3 : Int32) (x4 : Int32) (m : dc_M) (kR : ∀ (v : Int32), Φ (some (v)) (some (.int v)) m)  {lv : ab_L} (f0 : ab_lk lv 0 = some (.ref x0)) (f1 : ab_lk lv 1 = some (.int x1)) (f2 : ab_lk lv 2 = some (.int x2)) (f3 : ab_lk lv 3 = some (.int x3)) (f4 : ab_lk lv 4 = some (.int x4)) : dc_pv u N ab_M_X9_row 0 lv [] m (Φ (d_X9_row x0 x1 x2 x3 x4 m)) := by
  refine dc_pv.mono (dc_ok (C := C_X9_row) (S := S_X9_row) CO_X9_row 400 0 [(0, .ref x0), (1, .int x1), (2, .int x2), (3, .int x3), (4, .int x4)] lv [] m (dc_sub_cons f0 (dc_sub_cons f1 (dc_sub_cons f2 (dc_sub_cons f3 (dc_sub_cons f4 (dc_sub_nil)))))) ?_) (Nat.le_succ N)
  unfold d_X9_row
  refine dg_s (pc' := 1) [.int x1] rfl (fun _ => rfl) rfl ?_
  refine dg_s (pc' := 4) [.int (d_X9_isSheet x1 m)] rfl (fun _ => rfl) rfl ?_
  refine dw_if (fun t => Φ t) ((Int32.toInt (d_X9_isSheet x1 m)) = 0) [] 26 7 rfl (fun _ => rfl) (fun c0 => ?_) (fun c0 => ?_)
  · refine dw_g rfl ?_
    refine dg_s (pc' := 27) [.int (-1 : Int32)] rfl (fun _ => rfl) rfl ?_
    exact dw_r (some (.inl (some (.int (-1 : Int32)), m))) rfl (fun _ => rfl) (kR _)
  · refine dw_g rfl ?_
    refine dg_s (pc' := 8) [.int x2] rfl (fun _ => rfl) rfl ?_
    refine dg_s (pc' := 11) [.int (d_X9_isLane x2 m)] rfl (fun _ => rfl) rfl ?_
    refine dw_if (fun t => Φ t) ((Int32.toInt (d_X9_isLane x2 m)) = 0) [] 26 14 rfl (fun _ => rfl) (fun c1 => ?_) (fun c1 => ?_)
    · refine dw_g rfl ?_
      refine dg_s (pc' := 27) [.int (-1 : Int32)] rfl (fun _ => rfl) rfl ?_
      exact dw_r (some (.inl (some (.int (-1 : Int32)), m))) rfl (fun _ => rfl) (kR _)
    · refine dw_g rfl ?_
      refine dg_s (pc' := 16) [.int x4] rfl (fun _ => rfl) rfl ?_
      refine dw_if (fun t => Φ t) ((Int32.toInt x4) < 0) [] 26 19 rfl (fun _ => rfl) (fun c2 => ?_) (fun c2 => ?_)
      · refine dw_g rfl ?_
        refine dg_s (pc' := 27) [.int (-1 : Int32)] rfl (fun _ => rfl) rfl ?_
        exact dw_r (some (.inl (some (.int (-1 : Int32)), m))) rfl (fun _ => rfl) (kR _)
      · refine dw_g rfl ?_
        refine dg_s (pc' := 21) [.int x4] rfl (fun _ => rfl) rfl ?_
        refine dg_s (pc' := 23) [.int (64 : Int32), .int x4] rfl (fun _ => rfl) rfl ?_
        refine dw_if (fun t => Φ t) ((Int32.toInt x4) ≤ 64) [] 28 26 rfl (fun _ => rfl) (fun c3 => ?_) (fun c3 => ?_)
        · refine dw_g rfl ?_
          refine dg_s (pc' := 29) [.ref x0] rfl (fun _ => rfl) rfl ?_
          refine dg_s (pc' := 32) [.ref (x0 + 39)] rfl (fun _ => rfl) rfl ?_
          refine dg_s (pc' := 33) [.int x1, .ref (x0 + 39)] rfl (fun _ => rfl) rfl ?_
          refine dg_s (pc' := 34) [.ref (m.2.2.1 (x0 + 39) (Int32.toNatClampNeg x1))] rfl (fun _ => rfl) rfl ?_
          refine dg_L (pc' := 36) [(5, .ref (m.2.2.1 (x0 + 39) (Int32.toNatClampNeg x1))), (0, .ref x0), (1, .int x1), (2, .int x2), (3, .int x3), (4, .int x4)] [] rfl (fun _ => rfl) rfl ?_
          refine dg_s (pc' := 38) [.ref (m.2.2.1 (x0 + 39) (Int32.toNatClampNeg x1))] rfl (fun _ => rfl) rfl ?_
          refine dg_s (pc' := 39) [.int x2, .ref (m.2.2.1 (x0 + 39) (Int32.toNatClampNeg x1))] rfl (fun _ => rfl) rfl ?_
          refine dg_s (pc' := 42) [.int (d_X6_faultAs (m.2.2.1 (x0 + 39) (Int32.toNatClampNeg x1)) x2 m)] rfl (fun _ => rfl) rfl ?_
          refine dg_L (pc' := 44) [(6, .int (d_X6_faultAs (m.2.2.1 (x0 + 39) (Int32.toNatClampNeg x1)) x2 m)), (5, .ref (m.2.2.1 (x0 + 39) (Int32.toNatClampNeg x1))), (0, .ref x0), (1, .int x1), (2, .int x2), (3, .int x3), (4, .int x4)] [] rfl (fun _ => rfl) rfl ?_
          refine dg_s (pc' := 46) [.int (d_X6_faultAs (m.2.2.1 (x0 + 39) (Int32.toNatClampNeg x1)) x2 m)] rfl (fun _ => rfl) rfl ?_
          refine dw_if (fun t => Φ t) ((Int32.toInt (d_X6_faultAs (m.2.2.1 (x0 + 39) (Int32.toNatClampNeg x1)) x2 m)) = 0) [] 55 49 rfl (fun _ => rfl) (fun c4 => ?_) (fun c4 => ?_)
          · refine dw_g rfl ?_
            refine dg_s (pc' := 57) [.int x4] rfl (fun _ => rfl) rfl ?_
            refine dw_if (fun t => Φ t) ((Int32.toInt x4) ≤ 0) [] 74 60 rfl (fun _ => rfl) (fun c5 => ?_) (fun c5 => ?_)
            · refine dw_g rfl ?_
              refine dg_s (pc' := 75) [.ref x0] rfl (fun _ => rfl) rfl ?_
              refine dg_s (pc' := 78) [.ref (m.2.2.1 x0 7)] rfl (fun _ => rfl) rfl ?_
              refine dg_s (pc' := 81) [.int (m.1 (m.2.2.1 x0 7) 13)] rfl (fun _ => rfl) rfl ?_
              refine dg_L (pc' := 83) [(7, .int (m.1 (m.2.2.1 x0 7) 13)), (6, .int (d_X6_faultAs (m.2.2.1 (x0 + 39) (Int32.toNatClampNeg x1)) x2 m)), (5, .ref (m.2.2.1 (x0 + 39) (Int32.toNatClampNeg x1))), (0, .ref x0), (1, .int x1), (2, .int x2), (3, .int x3), (4, .int x4)] [] rfl (fun _ => rfl) rfl ?_
              refine dg_s (pc' := 84) [.int (0 : Int32)] rfl (fun _ => rfl) rfl ?_
              refine dw_L (pc' := 86) [(8, .int (0 : Int32)), (7, .int (m.1 (m.2.2.1 x0 7) 13)), (6, .int (d_X6_faultAs (m.2.2.1 (x0 + 39) (Int32.toNatClampNeg x1)) x2 m)), (5, .ref (m.2.2.1 (x0 + 39) (Int32.toNatClampNeg x1))), (0, .ref x0), (1, .int x1), (2, .int x2), (3, .int x3), (4, .int x4)] [] rfl (fun _ => rfl) ?_
              exact dw_j rfl (fun lv1 hv => k_X9_row_l86 (Φ := (fun t => Φ t)) x0 x3 x4 (m.2.2.1 (x0 + 39) (Int32.toNatClampNeg x1)) m (fun _a  => kR _a) N  (m.1 (m.2.2.1 x0 7) 13) (0 : Int32) lv1 (hv.1 _ rfl) (hv.2.1 _ rfl) (hv.2.2.1 _ rfl) (hv.2.2.2.1 _ rfl) (hv.2.2.2.2.1 _ rfl) (hv.2.2.2.2.2.1 _ rfl))
            · refine dw_g rfl ?_
              refine dg_s (pc' := 62) [.ref (m.2.2.1 (x0 + 39) (Int32.toNatClampNeg x1))] rfl (fun _ => rfl) rfl ?_
              refine dg_s (pc' := 63) [.int x3, .ref (m.2.2.1 (x0 + 39) (Int32.toNatClampNeg x1))] rfl (fun _ => rfl) rfl ?_
              refine dg_s (pc' := 65) [.int x4, .int x3, .ref (m.2.2.1 (x0 + 39) (Int32.toNatClampNeg x1))] rfl (fun _ => rfl) rfl ?_
              refine dg_s (pc' := 68) [.int (d_X6_hasCells (m.2.2.1 (x0 + 39) (Int32.toNatClampNeg x1)) x3 x4 m)] rfl (fun _ => rfl) rfl ?_
              refine dw_if (fun t => Φ t) (¬ (Int32.toInt (d_X6_hasCells (m.2.2.1 (x0 + 39) (Int32.toNatClampNeg x1)) x3 x4 m)) = 0) [] 74 71 rfl (fun _ => rfl) (fun c6 => ?_) (fun c6 => ?_)
              · refine dw_g rfl ?_
                refine dg_s (pc' := 75) [.ref x0] rfl (fun _ => rfl) rfl ?_
                refine dg_s (pc' := 78) [.ref (m.2.2.1 x0 7)] rfl (fun _ => rfl) rfl ?_
                refine dg_s (pc' := 81) [.int (m.1 (m.2.2.1 x0 7) 13)] rfl (fun _ => rfl) rfl ?_
                refine dg_L (pc' := 83) [(7, .int (m.1 (m.2.2.1 x0 7) 13)), (6, .int (d_X6_faultAs (m.2.2.1 (x0 + 39) (Int32.toNatClampNeg x1)) x2 m)), (5, .ref (m.2.2.1 (x0 + 39) (Int32.toNatClampNeg x1))), (0, .ref x0), (1, .int x1), (2, .int x2), (3, .int x3), (4, .int x4)] [] rfl (fun _ => rfl) rfl ?_
                refine dg_s (pc' := 84) [.int (0 : Int32)] rfl (fun _ => rfl) rfl ?_
                refine dw_L (pc' := 86) [(8, .int (0 : Int32)), (7, .int (m.1 (m.2.2.1 x0 7) 13)), (6, .int (d_X6_faultAs (m.2.2.1 (x0 + 39) (Int32.toNatClampNeg x1)) x2 m)), (5, .ref (m.2.2.1 (x0 + 39) (Int32.toNatClampNeg x1))), (0, .ref x0), (1, .int x1), (2, .int x2), (3, .int x3), (4, .int x4)] [] rfl (fun _ => rfl) ?_
                exact dw_j rfl (fun lv1 hv => k_X9_row_l86 (Φ := (fun t => Φ t)) x0 x3 x4 (m.2.2.1 (x0 + 39) (Int32.toNatClampNeg x1)) m (fun _a  => kR _a) N  (m.1 (m.2.2.1 x0 7) 13) (0 : Int32) lv1 (hv.1 _ rfl) (hv.2.1 _ rfl) (hv.2.2.1 _ rfl) (hv.2.2.2.1 _ rfl) (hv.2.2.2.2.1 _ rfl) (hv.2.2.2.2.2.1 _ rfl))
              · refine dw_g rfl ?_
                refine dg_s (pc' := 73) [.int (-12 : Int32)] rfl (fun _ => rfl) rfl ?_
                exact dw_r (some (.inl (some (.int (-12 : Int32)), m))) rfl (fun _ => rfl) (kR _)
          · refine dw_g rfl ?_
            refine dg_s (pc' := 51) [.int (-10 : Int32)] rfl (fun _ => rfl) rfl ?_
            refine dg_s (pc' := 53) [.int (d_X6_faultAs (m.2.2.1 (x0 + 39) (Int32.toNatClampNeg x1)) x2 m), .int (-10 : Int32)] rfl (fun _ => rfl) rfl ?_
            refine dg_s (pc' := 54) [.int ((-10 : Int32) - (d_X6_faultAs (m.2.2.1 (x0 + 39) (Int32.toNatClampNeg x1)) x2 m))] rfl (fun _ => rfl) rfl ?_
            exact dw_r (some (.inl (some (.int ((-10 : Int32) - (d_X6_faultAs (m.2.2.1 (x0 + 39) (Int32.toNatClampNeg x1)) x2 m))), m))) rfl (fun _ => rfl) (kR _)
        · refine dw_g rfl ?_
          refine dg_s (pc' := 27) [.int (-1 : Int32)] rfl (fun _ => rfl) rfl ?_
          exact dw_r (some (.inl (some (.int (-1 : Int32)), m))) rfl (fun _ => rfl) (kR _)
noncomputable def H_X9_row : dc_H := fun As m k => match As with
  | [.ref x0, .int x1, .int x2, .int x3, .int x4] => (d_X9_row x0 x1 x2 x3 x4 m).bind (fun q => k (some (.int q)) m)
  | _ => dc_kz
theorem H_X9_row_ok {u : Nat} : dc_cok u 129 H_X9_row := fun M' hG N As m k P hz hP => by
  obtain rfl : ab_M_X9_row = M' := Option.some.inj hG
  unfold H_X9_row at hP
  split at hP
  · rename_i x0 x1 x2 x3 x4
    exact dc_pv.imp (k_X9_row (Φ := fun (t : Option Int32) r m' => P (t.bind (fun q => k (some (.int q)) m)) → P (k r m')) x0 x1 x2 x3 x4 m (fun _  h => h) rfl rfl rfl rfl rfl) (fun r m' h => h hP)
  · exact absurd hP hz
