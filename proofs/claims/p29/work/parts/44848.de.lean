/-! ===== methods as functions (written by a program) ===== -/
noncomputable def C_X10_readLine : List (Nat × dc_H) := [(151, H_X10_fails), (153, H_X10_isSign), (152, H_X10_next), (158, H_X10_readPlace), (156, H_X10_readWire)]
theorem CO_X10_readLine {u : Nat} : dc_CO u C_X10_readLine := dc_CO_cons H_X10_fails_ok (dc_CO_cons H_X10_isSign_ok (dc_CO_cons H_X10_next_ok (dc_CO_cons H_X10_readPlace_ok (dc_CO_cons H_X10_readWire_ok (dc_CO_nil)))))
def S_X10_readLine : List (Nat × List Nat) := [(13, [0]), (34, [0, 1]), (67, [0]), (97, [0]), (108, [0]), (129, [0])]
noncomputable def d_X10_readLine_b129 (x0 : Nat) (m : dc_M) : Option dc_M :=
  ((d_X10_next x0 m).bind (fun q1 => some (q1)))
set_option maxHeartbeats 8000000 in
theorem k_X10_readLine_b129 {u : Nat} {N : Nat} {Φ : (Option dc_M) → Option Value → dc_M → Prop} (x0 : Nat) (m : dc_M) (kR : ∀  (m : dc_M), Φ (some (m)) (none) m)  {lv : ab_L} (f0 : ab_lk lv 0 = some (.ref x0)) : dc_pv u N ab_M_X10_readLine 129 lv [] m (Φ (d_X10_readLine_b129 x0 m)) := by
  refine dc_pv.mono (dc_ok (C := C_X10_readLine) (S := S_X10_readLine) CO_X10_readLine 400 129 [(0, .ref x0)] lv [] m (dc_sub_cons f0 (dc_sub_nil)) ?_) (Nat.le_succ N)
  unfold d_X10_readLine_b129
  refine dg_s (pc' := 130) [.ref x0] rfl (fun _ => rfl) rfl ?_
  refine dw_b (fun t => Φ t) (pc' := 133) (fun q1 => []) (fun q1 => q1) rfl (fun _ => rfl) (fun q1 => ?_)
  refine dw_g rfl ?_
  exact dw_r (some (.inl (none, q1))) rfl (fun _ => rfl) (kR _)
noncomputable def d_X10_readLine_b108 (x0 : Nat) (m : dc_M) : Option dc_M :=
  (if ¬ (Int32.toInt (m.1 x0 15)) = 0 then (d_X10_readLine_b129 x0 m) else (if ¬ (Int32.toInt (d_X10_isSign x0 (59 : Int32) m)) = 0 then (d_X10_readLine_b129 x0 m) else (dc_let (d_X10_fails x0 (2 : Int32) m) (fun q1 => (d_X10_readLine_b129 x0 q1)))))
set_option maxHeartbeats 8000000 in
theorem k_X10_readLine_b108 {u : Nat} {N : Nat} {Φ : (Option dc_M) → Option Value → dc_M → Prop} (x0 : Nat) (m : dc_M) (kR : ∀  (m : dc_M), Φ (some (m)) (none) m)  {lv : ab_L} (f0 : ab_lk lv 0 = some (.ref x0)) : dc_pv u N ab_M_X10_readLine 108 lv [] m (Φ (d_X10_readLine_b108 x0 m)) := by
  refine dc_pv.mono (dc_ok (C := C_X10_readLine) (S := S_X10_readLine) CO_X10_readLine 400 108 [(0, .ref x0)] lv [] m (dc_sub_cons f0 (dc_sub_nil)) ?_) (Nat.le_succ N)
  unfold d_X10_readLine_b108
  refine dg_s (pc' := 109) [.ref x0] rfl (fun _ => rfl) rfl ?_
  refine dg_s (pc' := 112) [.int (m.1 x0 15)] rfl (fun _ => rfl) rfl ?_
  refine dw_if (fun t => Φ t) (¬ (Int32.toInt (m.1 x0 15)) = 0) [] 129 115 rfl (fun _ => rfl) (fun c0 => ?_) (fun c0 => ?_)
  · exact dw_j rfl (fun lv1 hv => k_X10_readLine_b129 (Φ := (fun t => Φ t)) x0 m (fun _b => kR _b)  (hv.1 _ rfl))
  · refine dw_g rfl ?_
    refine dg_s (pc' := 116) [.ref x0] rfl (fun _ => rfl) rfl ?_
    refine dg_s (pc' := 118) [.int (59 : Int32), .ref x0] rfl (fun _ => rfl) rfl ?_
    refine dg_s (pc' := 121) [.int (d_X10_isSign x0 (59 : Int32) m)] rfl (fun _ => rfl) rfl ?_
    refine dw_if (fun t => Φ t) (¬ (Int32.toInt (d_X10_isSign x0 (59 : Int32) m)) = 0) [] 129 124 rfl (fun _ => rfl) (fun c1 => ?_) (fun c1 => ?_)
    · exact dw_j rfl (fun lv1 hv => k_X10_readLine_b129 (Φ := (fun t => Φ t)) x0 m (fun _b => kR _b)  (hv.1 _ rfl))
    · refine dw_g rfl ?_
      refine dg_s (pc' := 125) [.ref x0] rfl (fun _ => rfl) rfl ?_
      refine dg_s (pc' := 126) [.int (2 : Int32), .ref x0] rfl (fun _ => rfl) rfl ?_
      refine dw_l (fun t => Φ t) (pc' := 129) (fun q1 => []) (fun q1 => q1) rfl (fun _ => rfl) (fun q1 => ?_)
      exact dw_j rfl (fun lv1 hv => k_X10_readLine_b129 (Φ := (fun t => Φ t)) x0 q1 (fun _b => kR _b)  (hv.1 _ rfl))
noncomputable def d_X10_readLine_b97 (x0 : Nat) (s0 : Int32) (s1 : Nat) (m : dc_M) : Option dc_M :=
  ((d_X10_readWire s1 s0 m).bind (fun q1 => (d_X10_readLine_b108 x0 q1)))
set_option maxHeartbeats 8000000 in
theorem k_X10_readLine_b97 {u : Nat} {N : Nat} {Φ : (Option dc_M) → Option Value → dc_M → Prop} (x0 : Nat) (s0 : Int32) (s1 : Nat) (m : dc_M) (kR : ∀  (m : dc_M), Φ (some (m)) (none) m)  {lv : ab_L} (f0 : ab_lk lv 0 = some (.ref x0)) : dc_pv u N ab_M_X10_readLine 97 lv [.int s0, .ref s1] m (Φ (d_X10_readLine_b97 x0 s0 s1 m)) := by
  refine dc_pv.mono (dc_ok (C := C_X10_readLine) (S := S_X10_readLine) CO_X10_readLine 400 97 [(0, .ref x0)] lv [.int s0, .ref s1] m (dc_sub_cons f0 (dc_sub_nil)) ?_) (Nat.le_succ N)
  unfold d_X10_readLine_b97
  refine dw_b (fun t => Φ t) (pc' := 100) (fun q1 => []) (fun q1 => q1) rfl (fun _ => rfl) (fun q1 => ?_)
  refine dw_g rfl ?_
  refine dw_s (pc' := 108) [] rfl (fun _ => rfl) ?_
  exact dw_j rfl (fun lv1 hv => k_X10_readLine_b108 (Φ := (fun t => Φ t)) x0 q1 (fun _b => kR _b)  (hv.1 _ rfl))
noncomputable def d_X10_readLine_b67 (x0 : Nat) (m : dc_M) : Option dc_M :=
  (if ¬ (Int32.toInt (m.1 x0 20)) = 302 then (if ¬ (Int32.toInt (m.1 x0 20)) = 16052 then (d_X10_readLine_b97 x0 (2 : Int32) x0 m) else (d_X10_readLine_b97 x0 (1 : Int32) x0 m)) else (d_X10_readLine_b97 x0 (0 : Int32) x0 m))
set_option maxHeartbeats 8000000 in
theorem k_X10_readLine_b67 {u : Nat} {N : Nat} {Φ : (Option dc_M) → Option Value → dc_M → Prop} (x0 : Nat) (m : dc_M) (kR : ∀  (m : dc_M), Φ (some (m)) (none) m)  {lv : ab_L} (f0 : ab_lk lv 0 = some (.ref x0)) : dc_pv u N ab_M_X10_readLine 67 lv [] m (Φ (d_X10_readLine_b67 x0 m)) := by
  refine dc_pv.mono (dc_ok (C := C_X10_readLine) (S := S_X10_readLine) CO_X10_readLine 400 67 [(0, .ref x0)] lv [] m (dc_sub_cons f0 (dc_sub_nil)) ?_) (Nat.le_succ N)
  unfold d_X10_readLine_b67
  refine dg_s (pc' := 68) [.ref x0] rfl (fun _ => rfl) rfl ?_
  refine dg_s (pc' := 69) [.ref x0, .ref x0] rfl (fun _ => rfl) rfl ?_
  refine dg_s (pc' := 72) [.int (m.1 x0 20), .ref x0] rfl (fun _ => rfl) rfl ?_
  refine dg_s (pc' := 75) [.int (302 : Int32), .int (m.1 x0 20), .ref x0] rfl (fun _ => rfl) rfl ?_
  refine dw_if (fun t => Φ t) (¬ (Int32.toInt (m.1 x0 20)) = 302) [.ref x0] 82 78 rfl (fun _ => rfl) (fun c0 => ?_) (fun c0 => ?_)
  · refine dw_g rfl ?_
    refine dg_s (pc' := 83) [.ref x0, .ref x0] rfl (fun _ => rfl) rfl ?_
    refine dg_s (pc' := 86) [.int (m.1 x0 20), .ref x0] rfl (fun _ => rfl) rfl ?_
    refine dg_s (pc' := 89) [.int (16052 : Int32), .int (m.1 x0 20), .ref x0] rfl (fun _ => rfl) rfl ?_
    refine dw_if (fun t => Φ t) (¬ (Int32.toInt (m.1 x0 20)) = 16052) [.ref x0] 96 92 rfl (fun _ => rfl) (fun c1 => ?_) (fun c1 => ?_)
    · refine dw_g rfl ?_
      refine dw_s (pc' := 97) [.int (2 : Int32), .ref x0] rfl (fun _ => rfl) ?_
      exact dw_j rfl (fun lv1 hv => k_X10_readLine_b97 (Φ := (fun t => Φ t)) x0 (2 : Int32) x0 m (fun _b => kR _b)  (hv.1 _ rfl))
    · refine dw_g rfl ?_
      refine dg_s (pc' := 93) [.int (1 : Int32), .ref x0] rfl (fun _ => rfl) rfl ?_
      refine dw_s (pc' := 97) [.int (1 : Int32), .ref x0] rfl (fun _ => rfl) ?_
      exact dw_j rfl (fun lv1 hv => k_X10_readLine_b97 (Φ := (fun t => Φ t)) x0 (1 : Int32) x0 m (fun _b => kR _b)  (hv.1 _ rfl))
  · refine dw_g rfl ?_
    refine dg_s (pc' := 79) [.int (0 : Int32), .ref x0] rfl (fun _ => rfl) rfl ?_
    refine dw_s (pc' := 97) [.int (0 : Int32), .ref x0] rfl (fun _ => rfl) ?_
    exact dw_j rfl (fun lv1 hv => k_X10_readLine_b97 (Φ := (fun t => Φ t)) x0 (0 : Int32) x0 m (fun _b => kR _b)  (hv.1 _ rfl))
noncomputable def d_X10_readLine_b34 (x0 : Nat) (x1 : Int32) (m : dc_M) : Option dc_M :=
  (if (Int32.toInt x1) = 0 then (dc_let (d_X10_fails x0 (2 : Int32) m) (fun q1 => (d_X10_readLine_b108 x0 q1))) else (if (Int32.toInt (m.1 x0 20)) = 302 then (d_X10_readLine_b67 x0 m) else (if (Int32.toInt (m.1 x0 20)) = 16052 then (d_X10_readLine_b67 x0 m) else (if ¬ (Int32.toInt (m.1 x0 20)) = 9910450 then (dc_let (d_X10_fails x0 (2 : Int32) m) (fun q2 => (d_X10_readLine_b108 x0 q2))) else (d_X10_readLine_b67 x0 m)))))
set_option maxHeartbeats 8000000 in
theorem k_X10_readLine_b34 {u : Nat} {N : Nat} {Φ : (Option dc_M) → Option Value → dc_M → Prop} (x0 : Nat) (x1 : Int32) (m : dc_M) (kR : ∀  (m : dc_M), Φ (some (m)) (none) m)  {lv : ab_L} (f0 : ab_lk lv 0 = some (.ref x0)) (f1 : ab_lk lv 1 = some (.int x1)) : dc_pv u N ab_M_X10_readLine 34 lv [] m (Φ (d_X10_readLine_b34 x0 x1 m)) := by
  refine dc_pv.mono (dc_ok (C := C_X10_readLine) (S := S_X10_readLine) CO_X10_readLine 400 34 [(0, .ref x0), (1, .int x1)] lv [] m (dc_sub_cons f0 (dc_sub_cons f1 (dc_sub_nil))) ?_) (Nat.le_succ N)
  unfold d_X10_readLine_b34
  refine dg_s (pc' := 35) [.int x1] rfl (fun _ => rfl) rfl ?_
  refine dw_if (fun t => Φ t) ((Int32.toInt x1) = 0) [] 103 38 rfl (fun _ => rfl) (fun c0 => ?_) (fun c0 => ?_)
  · refine dw_g rfl ?_
    refine dg_s (pc' := 104) [.ref x0] rfl (fun _ => rfl) rfl ?_
    refine dg_s (pc' := 105) [.int (2 : Int32), .ref x0] rfl (fun _ => rfl) rfl ?_
    refine dw_l (fun t => Φ t) (pc' := 108) (fun q1 => []) (fun q1 => q1) rfl (fun _ => rfl) (fun q1 => ?_)
    exact dw_j rfl (fun lv1 hv => k_X10_readLine_b108 (Φ := (fun t => Φ t)) x0 q1 (fun _b => kR _b)  (hv.1 _ rfl))
  · refine dw_g rfl ?_
    refine dg_s (pc' := 39) [.ref x0] rfl (fun _ => rfl) rfl ?_
    refine dg_s (pc' := 42) [.int (m.1 x0 20)] rfl (fun _ => rfl) rfl ?_
    refine dg_s (pc' := 45) [.int (302 : Int32), .int (m.1 x0 20)] rfl (fun _ => rfl) rfl ?_
    refine dw_if (fun t => Φ t) ((Int32.toInt (m.1 x0 20)) = 302) [] 67 48 rfl (fun _ => rfl) (fun c1 => ?_) (fun c1 => ?_)
    · exact dw_j rfl (fun lv1 hv => k_X10_readLine_b67 (Φ := (fun t => Φ t)) x0 m (fun _b => kR _b)  (hv.1 _ rfl))
    · refine dw_g rfl ?_
      refine dg_s (pc' := 49) [.ref x0] rfl (fun _ => rfl) rfl ?_
      refine dg_s (pc' := 52) [.int (m.1 x0 20)] rfl (fun _ => rfl) rfl ?_
      refine dg_s (pc' := 55) [.int (16052 : Int32), .int (m.1 x0 20)] rfl (fun _ => rfl) rfl ?_
      refine dw_if (fun t => Φ t) ((Int32.toInt (m.1 x0 20)) = 16052) [] 67 58 rfl (fun _ => rfl) (fun c2 => ?_) (fun c2 => ?_)
      · exact dw_j rfl (fun lv1 hv => k_X10_readLine_b67 (Φ := (fun t => Φ t)) x0 m (fun _b => kR _b)  (hv.1 _ rfl))
      · refine dw_g rfl ?_
        refine dg_s (pc' := 59) [.ref x0] rfl (fun _ => rfl) rfl ?_
        refine dg_s (pc' := 62) [.int (m.1 x0 20)] rfl (fun _ => rfl) rfl ?_
        refine dg_s (pc' := 64) [.int (9910450 : Int32), .int (m.1 x0 20)] rfl (fun _ => rfl) rfl ?_
        refine dw_if (fun t => Φ t) (¬ (Int32.toInt (m.1 x0 20)) = 9910450) [] 103 67 rfl (fun _ => rfl) (fun c3 => ?_) (fun c3 => ?_)
        · refine dw_g rfl ?_
          refine dg_s (pc' := 104) [.ref x0] rfl (fun _ => rfl) rfl ?_
          refine dg_s (pc' := 105) [.int (2 : Int32), .ref x0] rfl (fun _ => rfl) rfl ?_
          refine dw_l (fun t => Φ t) (pc' := 108) (fun q2 => []) (fun q2 => q2) rfl (fun _ => rfl) (fun q2 => ?_)
          exact dw_j rfl (fun lv1 hv => k_X10_readLine_b108 (Φ := (fun t => Φ t)) x0 q2 (fun _b => kR _b)  (hv.1 _ rfl))
        · exact dw_j rfl (fun lv1 hv => k_X10_readLine_b67 (Φ := (fun t => Φ t)) x0 m (fun _b => kR _b)  (hv.1 _ rfl))
noncomputable def d_X10_readLine_b13 (x0 : Nat) (s0 : Int32) (m : dc_M) : Option dc_M :=
  (if (Int32.toInt s0) = 0 then (d_X10_readLine_b34 x0 s0 m) else (if ¬ (Int32.toInt (m.1 x0 20)) = 17171557 then (d_X10_readLine_b34 x0 s0 m) else ((d_X10_readPlace x0 m).bind (fun q1 => (d_X10_readLine_b108 x0 q1)))))
set_option maxHeartbeats 8000000 in
theorem k_X10_readLine_b13 {u : Nat} {N : Nat} {Φ : (Option dc_M) → Option Value → dc_M → Prop} (x0 : Nat) (s0 : Int32) (m : dc_M) (kR : ∀  (m : dc_M), Φ (some (m)) (none) m)  {lv : ab_L} (f0 : ab_lk lv 0 = some (.ref x0)) : dc_pv u N ab_M_X10_readLine 13 lv [.int s0] m (Φ (d_X10_readLine_b13 x0 s0 m)) := by
  refine dc_pv.mono (dc_ok (C := C_X10_readLine) (S := S_X10_readLine) CO_X10_readLine 400 13 [(0, .ref x0)] lv [.int s0] m (dc_sub_cons f0 (dc_sub_nil)) ?_) (Nat.le_succ N)
  unfold d_X10_readLine_b13
  refine dg_L (pc' := 14) [(1, .int s0), (0, .ref x0)] [] rfl (fun _ => rfl) rfl ?_
  refine dg_s (pc' := 15) [.int s0] rfl (fun _ => rfl) rfl ?_
  refine dw_if (fun t => Φ t) ((Int32.toInt s0) = 0) [] 34 18 rfl (fun _ => rfl) (fun c0 => ?_) (fun c0 => ?_)
  · exact dw_j rfl (fun lv1 hv => k_X10_readLine_b34 (Φ := (fun t => Φ t)) x0 s0 m (fun _b => kR _b)  (hv.1 _ rfl) (hv.2.1 _ rfl))
  · refine dw_g rfl ?_
    refine dg_s (pc' := 19) [.ref x0] rfl (fun _ => rfl) rfl ?_
    refine dg_s (pc' := 22) [.int (m.1 x0 20)] rfl (fun _ => rfl) rfl ?_
    refine dg_s (pc' := 24) [.int (17171557 : Int32), .int (m.1 x0 20)] rfl (fun _ => rfl) rfl ?_
    refine dw_if (fun t => Φ t) (¬ (Int32.toInt (m.1 x0 20)) = 17171557) [] 34 27 rfl (fun _ => rfl) (fun c1 => ?_) (fun c1 => ?_)
    · exact dw_j rfl (fun lv1 hv => k_X10_readLine_b34 (Φ := (fun t => Φ t)) x0 s0 m (fun _b => kR _b)  (hv.1 _ rfl) (hv.2.1 _ rfl))
    · refine dw_g rfl ?_
      refine dg_s (pc' := 28) [.ref x0] rfl (fun _ => rfl) rfl ?_
      refine dw_b (fun t => Φ t) (pc' := 31) (fun q1 => []) (fun q1 => q1) rfl (fun _ => rfl) (fun q1 => ?_)
      refine dw_g rfl ?_
      refine dw_s (pc' := 108) [] rfl (fun _ => rfl) ?_
      exact dw_j rfl (fun lv1 hv => k_X10_readLine_b108 (Φ := (fun t => Φ t)) x0 q1 (fun _b => kR _b)  (hv.1 _ rfl))
noncomputable def d_X10_readLine (x0 : Nat) (m : dc_M) : Option dc_M :=
  (if ¬ (Int32.toInt (m.1 x0 19)) = 1 then (d_X10_readLine_b13 x0 (0 : Int32) m) else (d_X10_readLine_b13 x0 (1 : Int32) m))
set_option maxHeartbeats 8000000 in
theorem k_X10_readLine {u : Nat} {N : Nat} {Φ : (Option dc_M) → Option Value → dc_M → Prop} (x0 : Nat) (m : dc_M) (kR : ∀  (m : dc_M), Φ (some (m)) (none) m)  {lv : ab_L} (f0 : ab_lk lv 0 = some (.ref x0)) : dc_pv u N ab_M_X10_readLine 0 lv [] m (Φ (d_X10_readLine x0 m)) := by
  refine dc_pv.mono (dc_ok (C := C_X10_readLine) (S := S_X10_readLine) CO_X10_readLine 400 0 [(0, .ref x0)] lv [] m (dc_sub_cons f0 (dc_sub_nil)) ?_) (Nat.le_succ N)
  unfold d_X10_readLine
  refine dg_s (pc' := 1) [.ref x0] rfl (fun _ => rfl) rfl ?_
  refine dg_s (pc' := 4) [.int (m.1 x0 19)] rfl (fun _ => rfl) rfl ?_
  refine dg_s (pc' := 5) [.int (1 : Int32), .int (m.1 x0 19)] rfl (fun _ => rfl) rfl ?_
  refine dw_if (fun t => Φ t) (¬ (Int32.toInt (m.1 x0 19)) = 1) [] 12 8 rfl (fun _ => rfl) (fun c0 => ?_) (fun c0 => ?_)
  · refine dw_g rfl ?_
    refine dw_s (pc' := 13) [.int (0 : Int32)] rfl (fun _ => rfl) ?_
    exact dw_j rfl (fun lv1 hv => k_X10_readLine_b13 (Φ := (fun t => Φ t)) x0 (0 : Int32) m (fun _b => kR _b)  (hv.1 _ rfl))
  · refine dw_g rfl ?_
    refine dg_s (pc' := 9) [.int (1 : Int32)] rfl (fun _ => rfl) rfl ?_
    refine dw_s (pc' := 13) [.int (1 : Int32)] rfl (fun _ => rfl) ?_
    exact dw_j rfl (fun lv1 hv => k_X10_readLine_b13 (Φ := (fun t => Φ t)) x0 (1 : Int32) m (fun _b => kR _b)  (hv.1 _ rfl))
noncomputable def H_X10_readLine : dc_H := fun As m k => match As with
  | [.ref x0] => (d_X10_readLine x0 m).bind (fun q => k (none) q)
  | _ => dc_kz
theorem H_X10_readLine_ok {u : Nat} : dc_cok u 159 H_X10_readLine := fun M' hG N As m k P hz hP => by
  obtain rfl : ab_M_X10_readLine = M' := Option.some.inj hG
  unfold H_X10_readLine at hP
  split at hP
  · rename_i x0
    exact dc_pv.imp (k_X10_readLine (Φ := fun (t : Option dc_M) r m' => P (t.bind (fun q => k (none) q)) → P (k r m')) x0 m (fun _ h => h) rfl) (fun r m' h => h hP)
  · exact absurd hP hz
def C_X10_begin : List (Nat × dc_H) := []
theorem CO_X10_begin {u : Nat} : dc_CO u C_X10_begin := dc_CO_nil
def S_X10_begin : List (Nat × List Nat) := []
def d_X10_begin (x0 : Nat) (m : dc_M) : dc_M :=
  (dc_wi (dc_wi m x0 64 (0 : Int32)) (x0 + 33) (Int32.toNatClampNeg (0 : Int32)) ((dc_wi m x0 64 (0 : Int32)).1 x0 11))
set_option maxHeartbeats 8000000 in
theorem k_X10_begin {u : Nat} {N : Nat} {Φ : dc_M → Option Value → dc_M → Prop} (x0 : Nat) (m : dc_M) (kR : ∀  (m : dc_M), Φ (m) (none) m)  {lv : ab_L} (f0 : ab_lk lv 0 = some (.ref x0)) : dc_pv u N ab_M_X10_begin 0 lv [] m (Φ (d_X10_begin x0 m)) := by
  refine dc_pv.mono (dc_ok (C := C_X10_begin) (S := S_X10_begin) CO_X10_begin 400 0 [(0, .ref x0)] lv [] m (dc_sub_cons f0 (dc_sub_nil)) ?_) (Nat.le_succ N)
  unfold d_X10_begin
  refine dg_s (pc' := 1) [.ref x0] rfl (fun _ => rfl) rfl ?_
  refine dg_s (pc' := 2) [.int (0 : Int32), .ref x0] rfl (fun _ => rfl) rfl ?_
  refine dg_m (pc' := 5) (dc_wi m x0 64 (0 : Int32)) [] rfl (fun _ => rfl) rfl ?_
  refine dg_s (pc' := 6) [.ref x0] rfl (fun _ => rfl) rfl ?_
  refine dg_s (pc' := 9) [.ref (x0 + 33)] rfl (fun _ => rfl) rfl ?_
  refine dg_s (pc' := 10) [.int (0 : Int32), .ref (x0 + 33)] rfl (fun _ => rfl) rfl ?_
  refine dg_s (pc' := 11) [.ref x0, .int (0 : Int32), .ref (x0 + 33)] rfl (fun _ => rfl) rfl ?_
  refine dg_s (pc' := 14) [.int ((dc_wi m x0 64 (0 : Int32)).1 x0 11), .int (0 : Int32), .ref (x0 + 33)] rfl (fun _ => rfl) rfl ?_
  refine dg_m (pc' := 15) (dc_wi (dc_wi m x0 64 (0 : Int32)) (x0 + 33) (Int32.toNatClampNeg (0 : Int32)) ((dc_wi m x0 64 (0 : Int32)).1 x0 11)) [] rfl (fun _ => rfl) rfl ?_
  exact dw_r (some (.inl (none, (dc_wi (dc_wi m x0 64 (0 : Int32)) (x0 + 33) (Int32.toNatClampNeg (0 : Int32)) ((dc_wi m x0 64 (0 : Int32)).1 x0 11))))) rfl (fun _ => rfl) (kR _)
def H_X10_begin : dc_H := fun As m k => match As with
  | [.ref x0] => dc_let (d_X10_begin x0 m) (fun q => k (none) q)
  | _ => dc_kz
theorem H_X10_begin_ok {u : Nat} : dc_cok u 221 H_X10_begin := fun M' hG N As m k P hz hP => by
  obtain rfl : ab_M_X10_begin = M' := Option.some.inj hG
  unfold H_X10_begin at hP
  split at hP
  · rename_i x0
    exact dc_pv.imp (k_X10_begin (Φ := fun (t : dc_M) r m' => P (dc_let t (fun q => k (none) q)) → P (k r m')) x0 m (fun _ h => h) rfl) (fun r m' h => h hP)
  · exact absurd hP hz
noncomputable def C_X10_text : List (Nat × dc_H) := [(221, H_X10_begin), (152, H_X10_next), (159, H_X10_readLine)]
theorem CO_X10_text {u : Nat} : dc_CO u C_X10_text := dc_CO_cons H_X10_begin_ok (dc_CO_cons H_X10_next_ok (dc_CO_cons H_X10_readLine_ok (dc_CO_nil)))
def S_X10_text : List (Nat × List Nat) := [(34, [0]), (55, [0]), (117, [0, 1]), (155, [0, 1])]
noncomputable def d_X10_text_l155b (x0 : Nat) (x1 : Int32) (m : dc_M) : Option ((Int32 × dc_M) ⊕ (Int32 × dc_M)) :=
  (if 16 ≤ (Int32.toInt x1) then (dc_let (d_X10_begin x0 m) (fun q1 => some (Sum.inr (((q1.1 x0 10), q1))))) else some (Sum.inl ((x1 + (1 : Int32)), (dc_wi (dc_wi (dc_wi (dc_wi (dc_wi (dc_wi m (x0 + 3) (Int32.toNatClampNeg x1) (m.1 (x0 + 12) (Int32.toNatClampNeg x1))) (x0 + 4) (Int32.toNatClampNeg x1) ((dc_wi m (x0 + 3) (Int32.toNatClampNeg x1) (m.1 (x0 + 12) (Int32.toNatClampNeg x1))).1 (x0 + 13) (Int32.toNatClampNeg x1))) (x0 + 5) (Int32.toNatClampNeg x1) ((dc_wi (dc_wi m (x0 + 3) (Int32.toNatClampNeg x1) (m.1 (x0 + 12) (Int32.toNatClampNeg x1))) (x0 + 4) (Int32.toNatClampNeg x1) ((dc_wi m (x0 + 3) (Int32.toNatClampNeg x1) (m.1 (x0 + 12) (Int32.toNatClampNeg x1))).1 (x0 + 13) (Int32.toNatClampNeg x1))).1 (x0 + 14) (Int32.toNatClampNeg x1))) (x0 + 6) (Int32.toNatClampNeg x1) ((dc_wi (dc_wi (dc_wi m (x0 + 3) (Int32.toNatClampNeg x1) (m.1 (x0 + 12) (Int32.toNatClampNeg x1))) (x0 + 4) (Int32.toNatClampNeg x1) ((dc_wi m (x0 + 3) (Int32.toNatClampNeg x1) (m.1 (x0 + 12) (Int32.toNatClampNeg x1))).1 (x0 + 13) (Int32.toNatClampNeg x1))) (x0 + 5) (Int32.toNatClampNeg x1) ((dc_wi (dc_wi m (x0 + 3) (Int32.toNatClampNeg x1) (m.1 (x0 + 12) (Int32.toNatClampNeg x1))) (x0 + 4) (Int32.toNatClampNeg x1) ((dc_wi m (x0 + 3) (Int32.toNatClampNeg x1) (m.1 (x0 + 12) (Int32.toNatClampNeg x1))).1 (x0 + 13) (Int32.toNatClampNeg x1))).1 (x0 + 14) (Int32.toNatClampNeg x1))).1 (x0 + 15) (Int32.toNatClampNeg x1))) (x0 + 7) (Int32.toNatClampNeg x1) ((dc_wi (dc_wi (dc_wi (dc_wi m (x0 + 3) (Int32.toNatClampNeg x1) (m.1 (x0 + 12) (Int32.toNatClampNeg x1))) (x0 + 4) (Int32.toNatClampNeg x1) ((dc_wi m (x0 + 3) (Int32.toNatClampNeg x1) (m.1 (x0 + 12) (Int32.toNatClampNeg x1))).1 (x0 + 13) (Int32.toNatClampNeg x1))) (x0 + 5) (Int32.toNatClampNeg x1) ((dc_wi (dc_wi m (x0 + 3) (Int32.toNatClampNeg x1) (m.1 (x0 + 12) (Int32.toNatClampNeg x1))) (x0 + 4) (Int32.toNatClampNeg x1) ((dc_wi m (x0 + 3) (Int32.toNatClampNeg x1) (m.1 (x0 + 12) (Int32.toNatClampNeg x1))).1 (x0 + 13) (Int32.toNatClampNeg x1))).1 (x0 + 14) (Int32.toNatClampNeg x1))) (x0 + 6) (Int32.toNatClampNeg x1) ((dc_wi (dc_wi (dc_wi m (x0 + 3) (Int32.toNatClampNeg x1) (m.1 (x0 + 12) (Int32.toNatClampNeg x1))) (x0 + 4) (Int32.toNatClampNeg x1) ((dc_wi m (x0 + 3) (Int32.toNatClampNeg x1) (m.1 (x0 + 12) (Int32.toNatClampNeg x1))).1 (x0 + 13) (Int32.toNatClampNeg x1))) (x0 + 5) (Int32.toNatClampNeg x1) ((dc_wi (dc_wi m (x0 + 3) (Int32.toNatClampNeg x1) (m.1 (x0 + 12) (Int32.toNatClampNeg x1))) (x0 + 4) (Int32.toNatClampNeg x1) ((dc_wi m (x0 + 3) (Int32.toNatClampNeg x1) (m.1 (x0 + 12) (Int32.toNatClampNeg x1))).1 (x0 + 13) (Int32.toNatClampNeg x1))).1 (x0 + 14) (Int32.toNatClampNeg x1))).1 (x0 + 15) (Int32.toNatClampNeg x1))).1 (x0 + 16) (Int32.toNatClampNeg x1))) (x0 + 8) (Int32.toNatClampNeg x1) (1 : Int32)))))
noncomputable def d_X10_text_l155s (x0 : Nat) : (Int32 × dc_M) → Option ((Int32 × dc_M) ⊕ (Int32 × dc_M)) := fun s => d_X10_text_l155b x0 s.1 s.2
noncomputable def d_X10_text_l155 (x0 : Nat) (x1 : Int32) (m : dc_M) : Option (Int32 × dc_M) := dc_lp (d_X10_text_l155s x0) (x1, m)
set_option maxHeartbeats 8000000 in
theorem k_X10_text_l155 {u : Nat} {Φ : (Option (Int32 × dc_M)) → Option Value → dc_M → Prop} (x0 : Nat) (kR : ∀ (v : Int32) (m : dc_M), Φ (some ((v, m))) (some (.int v)) m) : ∀ (N : Nat), ∀ (x1 : Int32) (m : dc_M) (lv : ab_L), ab_lk lv 0 = some (.ref x0) → ab_lk lv 1 = some (.int x1) → dc_pv u N ab_M_X10_text 155 lv [] m (Φ (d_X10_text_l155 x0 x1 m)) := by
  intro N
  induction N with
  | zero => intros; exact dc_pv_zero
  | succ N ih =>
    intro x1 m lv f0 f1
    refine dc_ok (C := C_X10_text) (S := S_X10_text) CO_X10_text 400 155 [(0, .ref x0), (1, .int x1)] lv [] m (dc_sub_cons f0 (dc_sub_cons f1 (dc_sub_nil))) ?_
    unfold d_X10_text_l155
    rw [dc_lp_eq]
    show (fun t x => dc_lf u N ab_M_X10_text (Φ (Option.bind t (dc_bk (d_X10_text_l155s x0)))) x) (d_X10_text_l155b x0 x1 m) _
    dsimp only
    unfold d_X10_text_l155b
    refine dg_s (pc' := 156) [.int x1] rfl (fun _ => rfl) rfl ?_
    refine dg_s (pc' := 158) [.int (16 : Int32), .int x1] rfl (fun _ => rfl) rfl ?_
    refine dw_if (fun t => Φ (Option.bind t (dc_bk (d_X10_text_l155s x0)))) (16 ≤ (Int32.toInt x1)) [] 234 161 rfl (fun _ => rfl) (fun c0 => ?_) (fun c0 => ?_)
    · refine dw_g rfl ?_
      refine dg_s (pc' := 235) [.ref x0] rfl (fun _ => rfl) rfl ?_
      refine dw_l (fun t => Φ (Option.bind t (dc_bk (d_X10_text_l155s x0)))) (pc' := 238) (fun q1 => []) (fun q1 => q1) rfl (fun _ => rfl) (fun q1 => ?_)
      refine dw_g rfl ?_
      refine dg_s (pc' := 239) [.ref x0] rfl (fun _ => rfl) rfl ?_
      refine dg_s (pc' := 242) [.int (q1.1 x0 10)] rfl (fun _ => rfl) rfl ?_
      exact dw_r (some (.inl (some (.int (q1.1 x0 10)), q1))) rfl (fun _ => rfl) (kR _ _)
    · refine dw_g rfl ?_
      refine dg_s (pc' := 162) [.ref x0] rfl (fun _ => rfl) rfl ?_
      refine dg_s (pc' := 165) [.ref (x0 + 3)] rfl (fun _ => rfl) rfl ?_
      refine dg_s (pc' := 166) [.int x1, .ref (x0 + 3)] rfl (fun _ => rfl) rfl ?_
      refine dg_s (pc' := 167) [.ref x0, .int x1, .ref (x0 + 3)] rfl (fun _ => rfl) rfl ?_
      refine dg_s (pc' := 170) [.ref (x0 + 12), .int x1, .ref (x0 + 3)] rfl (fun _ => rfl) rfl ?_
      refine dg_s (pc' := 171) [.int x1, .ref (x0 + 12), .int x1, .ref (x0 + 3)] rfl (fun _ => rfl) rfl ?_
      refine dg_s (pc' := 172) [.int (m.1 (x0 + 12) (Int32.toNatClampNeg x1)), .int x1, .ref (x0 + 3)] rfl (fun _ => rfl) rfl ?_
      refine dg_m (pc' := 173) (dc_wi m (x0 + 3) (Int32.toNatClampNeg x1) (m.1 (x0 + 12) (Int32.toNatClampNeg x1))) [] rfl (fun _ => rfl) rfl ?_
      refine dg_s (pc' := 174) [.ref x0] rfl (fun _ => rfl) rfl ?_
      refine dg_s (pc' := 177) [.ref (x0 + 4)] rfl (fun _ => rfl) rfl ?_
      refine dg_s (pc' := 178) [.int x1, .ref (x0 + 4)] rfl (fun _ => rfl) rfl ?_
      refine dg_s (pc' := 179) [.ref x0, .int x1, .ref (x0 + 4)] rfl (fun _ => rfl) rfl ?_
      refine dg_s (pc' := 182) [.ref (x0 + 13), .int x1, .ref (x0 + 4)] rfl (fun _ => rfl) rfl ?_
      refine dg_s (pc' := 183) [.int x1, .ref (x0 + 13), .int x1, .ref (x0 + 4)] rfl (fun _ => rfl) rfl ?_
      refine dg_s (pc' := 184) [.int ((dc_wi m (x0 + 3) (Int32.toNatClampNeg x1) (m.1 (x0 + 12) (Int32.toNatClampNeg x1))).1 (x0 + 13) (Int32.toNatClampNeg x1)), .int x1, .ref (x0 + 4)] rfl (fun _ => rfl) rfl ?_
      refine dg_m (pc' := 185) (dc_wi (dc_wi m (x0 + 3) (Int32.toNatClampNeg x1) (m.1 (x0 + 12) (Int32.toNatClampNeg x1))) (x0 + 4) (Int32.toNatClampNeg x1) ((dc_wi m (x0 + 3) (Int32.toNatClampNeg x1) (m.1 (x0 + 12) (Int32.toNatClampNeg x1))).1 (x0 + 13) (Int32.toNatClampNeg x1))) [] rfl (fun _ => rfl) rfl ?_
      refine dg_s (pc' := 186) [.ref x0] rfl (fun _ => rfl) rfl ?_
      refine dg_s (pc' := 189) [.ref (x0 + 5)] rfl (fun _ => rfl) rfl ?_
      refine dg_s (pc' := 190) [.int x1, .ref (x0 + 5)] rfl (fun _ => rfl) rfl ?_
      refine dg_s (pc' := 191) [.ref x0, .int x1, .ref (x0 + 5)] rfl (fun _ => rfl) rfl ?_
      refine dg_s (pc' := 194) [.ref (x0 + 14), .int x1, .ref (x0 + 5)] rfl (fun _ => rfl) rfl ?_
      refine dg_s (pc' := 195) [.int x1, .ref (x0 + 14), .int x1, .ref (x0 + 5)] rfl (fun _ => rfl) rfl ?_
      refine dg_s (pc' := 196) [.int ((dc_wi (dc_wi m (x0 + 3) (Int32.toNatClampNeg x1) (m.1 (x0 + 12) (Int32.toNatClampNeg x1))) (x0 + 4) (Int32.toNatClampNeg x1) ((dc_wi m (x0 + 3) (Int32.toNatClampNeg x1) (m.1 (x0 + 12) (Int32.toNatClampNeg x1))).1 (x0 + 13) (Int32.toNatClampNeg x1))).1 (x0 + 14) (Int32.toNatClampNeg x1)), .int x1, .ref (x0 + 5)] rfl (fun _ => rfl) rfl ?_
      refine dg_m (pc' := 197) (dc_wi (dc_wi (dc_wi m (x0 + 3) (Int32.toNatClampNeg x1) (m.1 (x0 + 12) (Int32.toNatClampNeg x1))) (x0 + 4) (Int32.toNatClampNeg x1) ((dc_wi m (x0 + 3) (Int32.toNatClampNeg x1) (m.1 (x0 + 12) (Int32.toNatClampNeg x1))).1 (x0 + 13) (Int32.toNatClampNeg x1))) (x0 + 5) (Int32.toNatClampNeg x1) ((dc_wi (dc_wi m (x0 + 3) (Int32.toNatClampNeg x1) (m.1 (x0 + 12) (Int32.toNatClampNeg x1))) (x0 + 4) (Int32.toNatClampNeg x1) ((dc_wi m (x0 + 3) (Int32.toNatClampNeg x1) (m.1 (x0 + 12) (Int32.toNatClampNeg x1))).1 (x0 + 13) (Int32.toNatClampNeg x1))).1 (x0 + 14) (Int32.toNatClampNeg x1))) [] rfl (fun _ => rfl) rfl ?_
      refine dg_s (pc' := 198) [.ref x0] rfl (fun _ => rfl) rfl ?_
      refine dg_s (pc' := 201) [.ref (x0 + 6)] rfl (fun _ => rfl) rfl ?_
      refine dg_s (pc' := 202) [.int x1, .ref (x0 + 6)] rfl (fun _ => rfl) rfl ?_
      refine dg_s (pc' := 203) [.ref x0, .int x1, .ref (x0 + 6)] rfl (fun _ => rfl) rfl ?_
      refine dg_s (pc' := 206) [.ref (x0 + 15), .int x1, .ref (x0 + 6)] rfl (fun _ => rfl) rfl ?_
      refine dg_s (pc' := 207) [.int x1, .ref (x0 + 15), .int x1, .ref (x0 + 6)] rfl (fun _ => rfl) rfl ?_
      refine dg_s (pc' := 208) [.int ((dc_wi (dc_wi (dc_wi m (x0 + 3) (Int32.toNatClampNeg x1) (m.1 (x0 + 12) (Int32.toNatClampNeg x1))) (x0 + 4) (Int32.toNatClampNeg x1) ((dc_wi m (x0 + 3) (Int32.toNatClampNeg x1) (m.1 (x0 + 12) (Int32.toNatClampNeg x1))).1 (x0 + 13) (Int32.toNatClampNeg x1))) (x0 + 5) (Int32.toNatClampNeg x1) ((dc_wi (dc_wi m (x0 + 3) (Int32.toNatClampNeg x1) (m.1 (x0 + 12) (Int32.toNatClampNeg x1))) (x0 + 4) (Int32.toNatClampNeg x1) ((dc_wi m (x0 + 3) (Int32.toNatClampNeg x1) (m.1 (x0 + 12) (Int32.toNatClampNeg x1))).1 (x0 + 13) (Int32.toNatClampNeg x1))).1 (x0 + 14) (Int32.toNatClampNeg x1))).1 (x0 + 15) (Int32.toNatClampNeg x1)), .int x1, .ref (x0 + 6)] rfl (fun _ => rfl) rfl ?_
      refine dg_m (pc' := 209) (dc_wi (dc_wi (dc_wi (dc_wi m (x0 + 3) (Int32.toNatClampNeg x1) (m.1 (x0 + 12) (Int32.toNatClampNeg x1))) (x0 + 4) (Int32.toNatClampNeg x1) ((dc_wi m (x0 + 3) (Int32.toNatClampNeg x1) (m.1 (x0 + 12) (Int32.toNatClampNeg x1))).1 (x0 + 13) (Int32.toNatClampNeg x1))) (x0 + 5) (Int32.toNatClampNeg x1) ((dc_wi (dc_wi m (x0 + 3) (Int32.toNatClampNeg x1) (m.1 (x0 + 12) (Int32.toNatClampNeg x1))) (x0 + 4) (Int32.toNatClampNeg x1) ((dc_wi m (x0 + 3) (Int32.toNatClampNeg x1) (m.1 (x0 + 12) (Int32.toNatClampNeg x1))).1 (x0 + 13) (Int32.toNatClampNeg x1))).1 (x0 + 14) (Int32.toNatClampNeg x1))) (x0 + 6) (Int32.toNatClampNeg x1) ((dc_wi (dc_wi (dc_wi m (x0 + 3) (Int32.toNatClampNeg x1) (m.1 (x0 + 12) (Int32.toNatClampNeg x1))) (x0 + 4) (Int32.toNatClampNeg x1) ((dc_wi m (x0 + 3) (Int32.toNatClampNeg x1) (m.1 (x0 + 12) (Int32.toNatClampNeg x1))).1 (x0 + 13) (Int32.toNatClampNeg x1))) (x0 + 5) (Int32.toNatClampNeg x1) ((dc_wi (dc_wi m (x0 + 3) (Int32.toNatClampNeg x1) (m.1 (x0 + 12) (Int32.toNatClampNeg x1))) (x0 + 4) (Int32.toNatClampNeg x1) ((dc_wi m (x0 + 3) (Int32.toNatClampNeg x1) (m.1 (x0 + 12) (Int32.toNatClampNeg x1))).1 (x0 + 13) (Int32.toNatClampNeg x1))).1 (x0 + 14) (Int32.toNatClampNeg x1))).1 (x0 + 15) (Int32.toNatClampNeg x1))) [] rfl (fun _ => rfl) rfl ?_
      refine dg_s (pc' := 210) [.ref x0] rfl (fun _ => rfl) rfl ?_
      refine dg_s (pc' := 213) [.ref (x0 + 7)] rfl (fun _ => rfl) rfl ?_
      refine dg_s (pc' := 214) [.int x1, .ref (x0 + 7)] rfl (fun _ => rfl) rfl ?_
      refine dg_s (pc' := 215) [.ref x0, .int x1, .ref (x0 + 7)] rfl (fun _ => rfl) rfl ?_
      refine dg_s (pc' := 218) [.ref (x0 + 16), .int x1, .ref (x0 + 7)] rfl (fun _ => rfl) rfl ?_
      refine dg_s (pc' := 219) [.int x1, .ref (x0 + 16), .int x1, .ref (x0 + 7)] rfl (fun _ => rfl) rfl ?_
      refine dg_s (pc' := 220) [.int ((dc_wi (dc_wi (dc_wi (dc_wi m (x0 + 3) (Int32.toNatClampNeg x1) (m.1 (x0 + 12) (Int32.toNatClampNeg x1))) (x0 + 4) (Int32.toNatClampNeg x1) ((dc_wi m (x0 + 3) (Int32.toNatClampNeg x1) (m.1 (x0 + 12) (Int32.toNatClampNeg x1))).1 (x0 + 13) (Int32.toNatClampNeg x1))) (x0 + 5) (Int32.toNatClampNeg x1) ((dc_wi (dc_wi m (x0 + 3) (Int32.toNatClampNeg x1) (m.1 (x0 + 12) (Int32.toNatClampNeg x1))) (x0 + 4) (Int32.toNatClampNeg x1) ((dc_wi m (x0 + 3) (Int32.toNatClampNeg x1) (m.1 (x0 + 12) (Int32.toNatClampNeg x1))).1 (x0 + 13) (Int32.toNatClampNeg x1))).1 (x0 + 14) (Int32.toNatClampNeg x1))) (x0 + 6) (Int32.toNatClampNeg x1) ((dc_wi (dc_wi (dc_wi m (x0 + 3) (Int32.toNatClampNeg x1) (m.1 (x0 + 12) (Int32.toNatClampNeg x1))) (x0 + 4) (Int32.toNatClampNeg x1) ((dc_wi m (x0 + 3) (Int32.toNatClampNeg x1) (m.1 (x0 + 12) (Int32.toNatClampNeg x1))).1 (x0 + 13) (Int32.toNatClampNeg x1))) (x0 + 5) (Int32.toNatClampNeg x1) ((dc_wi (dc_wi m (x0 + 3) (Int32.toNatClampNeg x1) (m.1 (x0 + 12) (Int32.toNatClampNeg x1))) (x0 + 4) (Int32.toNatClampNeg x1) ((dc_wi m (x0 + 3) (Int32.toNatClampNeg x1) (m.1 (x0 + 12) (Int32.toNatClampNeg x1))).1 (x0 + 13) (Int32.toNatClampNeg x1))).1 (x0 + 14) (Int32.toNatClampNeg x1))).1 (x0 + 15) (Int32.toNatClampNeg x1))).1 (x0 + 16) (Int32.toNatClampNeg x1)), .int x1, .ref (x0 + 7)] rfl (fun _ => rfl) rfl ?_
      refine dg_m (pc' := 221) (dc_wi (dc_wi (dc_wi (dc_wi (dc_wi m (x0 + 3) (Int32.toNatClampNeg x1) (m.1 (x0 + 12) (Int32.toNatClampNeg x1))) (x0 + 4) (Int32.toNatClampNeg x1) ((dc_wi m (x0 + 3) (Int32.toNatClampNeg x1) (m.1 (x0 + 12) (Int32.toNatClampNeg x1))).1 (x0 + 13) (Int32.toNatClampNeg x1))) (x0 + 5) (Int32.toNatClampNeg x1) ((dc_wi (dc_wi m (x0 + 3) (Int32.toNatClampNeg x1) (m.1 (x0 + 12) (Int32.toNatClampNeg x1))) (x0 + 4) (Int32.toNatClampNeg x1) ((dc_wi m (x0 + 3) (Int32.toNatClampNeg x1) (m.1 (x0 + 12) (Int32.toNatClampNeg x1))).1 (x0 + 13) (Int32.toNatClampNeg x1))).1 (x0 + 14) (Int32.toNatClampNeg x1))) (x0 + 6) (Int32.toNatClampNeg x1) ((dc_wi (dc_wi (dc_wi m (x0 + 3) (Int32.toNatClampNeg x1) (m.1 (x0 + 12) (Int32.toNatClampNeg x1))) (x0 + 4) (Int32.toNatClampNeg x1) ((dc_wi m (x0 + 3) (Int32.toNatClampNeg x1) (m.1 (x0 + 12) (Int32.toNatClampNeg x1))).1 (x0 + 13) (Int32.toNatClampNeg x1))) (x0 + 5) (Int32.toNatClampNeg x1) ((dc_wi (dc_wi m (x0 + 3) (Int32.toNatClampNeg x1) (m.1 (x0 + 12) (Int32.toNatClampNeg x1))) (x0 + 4) (Int32.toNatClampNeg x1) ((dc_wi m (x0 + 3) (Int32.toNatClampNeg x1) (m.1 (x0 + 12) (Int32.toNatClampNeg x1))).1 (x0 + 13) (Int32.toNatClampNeg x1))).1 (x0 + 14) (Int32.toNatClampNeg x1))).1 (x0 + 15) (Int32.toNatClampNeg x1))) (x0 + 7) (Int32.toNatClampNeg x1) ((dc_wi (dc_wi (dc_wi (dc_wi m (x0 + 3) (Int32.toNatClampNeg x1) (m.1 (x0 + 12) (Int32.toNatClampNeg x1))) (x0 + 4) (Int32.toNatClampNeg x1) ((dc_wi m (x0 + 3) (Int32.toNatClampNeg x1) (m.1 (x0 + 12) (Int32.toNatClampNeg x1))).1 (x0 + 13) (Int32.toNatClampNeg x1))) (x0 + 5) (Int32.toNatClampNeg x1) ((dc_wi (dc_wi m (x0 + 3) (Int32.toNatClampNeg x1) (m.1 (x0 + 12) (Int32.toNatClampNeg x1))) (x0 + 4) (Int32.toNatClampNeg x1) ((dc_wi m (x0 + 3) (Int32.toNatClampNeg x1) (m.1 (x0 + 12) (Int32.toNatClampNeg x1))).1 (x0 + 13) (Int32.toNatClampNeg x1))).1 (x0 + 14) (Int32.toNatClampNeg x1))) (x0 + 6) (Int32.toNatClampNeg x1) ((dc_wi (dc_wi (dc_wi m (x0 + 3) (Int32.toNatClampNeg x1) (m.1 (x0 + 12) (Int32.toNatClampNeg x1))) (x0 + 4) (Int32.toNatClampNeg x1) ((dc_wi m (x0 + 3) (Int32.toNatClampNeg x1) (m.1 (x0 + 12) (Int32.toNatClampNeg x1))).1 (x0 + 13) (Int32.toNatClampNeg x1))) (x0 + 5) (Int32.toNatClampNeg x1) ((dc_wi (dc_wi m (x0 + 3) (Int32.toNatClampNeg x1) (m.1 (x0 + 12) (Int32.toNatClampNeg x1))) (x0 + 4) (Int32.toNatClampNeg x1) ((dc_wi m (x0 + 3) (Int32.toNatClampNeg x1) (m.1 (x0 + 12) (Int32.toNatClampNeg x1))).1 (x0 + 13) (Int32.toNatClampNeg x1))).1 (x0 + 14) (Int32.toNatClampNeg x1))).1 (x0 + 15) (Int32.toNatClampNeg x1))).1 (x0 + 16) (Int32.toNatClampNeg x1))) [] rfl (fun _ => rfl) rfl ?_
      refine dg_s (pc' := 222) [.ref x0] rfl (fun _ => rfl) rfl ?_
      refine dg_s (pc' := 225) [.ref (x0 + 8)] rfl (fun _ => rfl) rfl ?_
      refine dg_s (pc' := 226) [.int x1, .ref (x0 + 8)] rfl (fun _ => rfl) rfl ?_
      refine dg_s (pc' := 227) [.int (1 : Int32), .int x1, .ref (x0 + 8)] rfl (fun _ => rfl) rfl ?_
      refine dg_m (pc' := 228) (dc_wi (dc_wi (dc_wi (dc_wi (dc_wi (dc_wi m (x0 + 3) (Int32.toNatClampNeg x1) (m.1 (x0 + 12) (Int32.toNatClampNeg x1))) (x0 + 4) (Int32.toNatClampNeg x1) ((dc_wi m (x0 + 3) (Int32.toNatClampNeg x1) (m.1 (x0 + 12) (Int32.toNatClampNeg x1))).1 (x0 + 13) (Int32.toNatClampNeg x1))) (x0 + 5) (Int32.toNatClampNeg x1) ((dc_wi (dc_wi m (x0 + 3) (Int32.toNatClampNeg x1) (m.1 (x0 + 12) (Int32.toNatClampNeg x1))) (x0 + 4) (Int32.toNatClampNeg x1) ((dc_wi m (x0 + 3) (Int32.toNatClampNeg x1) (m.1 (x0 + 12) (Int32.toNatClampNeg x1))).1 (x0 + 13) (Int32.toNatClampNeg x1))).1 (x0 + 14) (Int32.toNatClampNeg x1))) (x0 + 6) (Int32.toNatClampNeg x1) ((dc_wi (dc_wi (dc_wi m (x0 + 3) (Int32.toNatClampNeg x1) (m.1 (x0 + 12) (Int32.toNatClampNeg x1))) (x0 + 4) (Int32.toNatClampNeg x1) ((dc_wi m (x0 + 3) (Int32.toNatClampNeg x1) (m.1 (x0 + 12) (Int32.toNatClampNeg x1))).1 (x0 + 13) (Int32.toNatClampNeg x1))) (x0 + 5) (Int32.toNatClampNeg x1) ((dc_wi (dc_wi m (x0 + 3) (Int32.toNatClampNeg x1) (m.1 (x0 + 12) (Int32.toNatClampNeg x1))) (x0 + 4) (Int32.toNatClampNeg x1) ((dc_wi m (x0 + 3) (Int32.toNatClampNeg x1) (m.1 (x0 + 12) (Int32.toNatClampNeg x1))).1 (x0 + 13) (Int32.toNatClampNeg x1))).1 (x0 + 14) (Int32.toNatClampNeg x1))).1 (x0 + 15) (Int32.toNatClampNeg x1))) (x0 + 7) (Int32.toNatClampNeg x1) ((dc_wi (dc_wi (dc_wi (dc_wi m (x0 + 3) (Int32.toNatClampNeg x1) (m.1 (x0 + 12) (Int32.toNatClampNeg x1))) (x0 + 4) (Int32.toNatClampNeg x1) ((dc_wi m (x0 + 3) (Int32.toNatClampNeg x1) (m.1 (x0 + 12) (Int32.toNatClampNeg x1))).1 (x0 + 13) (Int32.toNatClampNeg x1))) (x0 + 5) (Int32.toNatClampNeg x1) ((dc_wi (dc_wi m (x0 + 3) (Int32.toNatClampNeg x1) (m.1 (x0 + 12) (Int32.toNatClampNeg x1))) (x0 + 4) (Int32.toNatClampNeg x1) ((dc_wi m (x0 + 3) (Int32.toNatClampNeg x1) (m.1 (x0 + 12) (Int32.toNatClampNeg x1))).1 (x0 + 13) (Int32.toNatClampNeg x1))).1 (x0 + 14) (Int32.toNatClampNeg x1))) (x0 + 6) (Int32.toNatClampNeg x1) ((dc_wi (dc_wi (dc_wi m (x0 + 3) (Int32.toNatClampNeg x1) (m.1 (x0 + 12) (Int32.toNatClampNeg x1))) (x0 + 4) (Int32.toNatClampNeg x1) ((dc_wi m (x0 + 3) (Int32.toNatClampNeg x1) (m.1 (x0 + 12) (Int32.toNatClampNeg x1))).1 (x0 + 13) (Int32.toNatClampNeg x1))) (x0 + 5) (Int32.toNatClampNeg x1) ((dc_wi (dc_wi m (x0 + 3) (Int32.toNatClampNeg x1) (m.1 (x0 + 12) (Int32.toNatClampNeg x1))) (x0 + 4) (Int32.toNatClampNeg x1) ((dc_wi m (x0 + 3) (Int32.toNatClampNeg x1) (m.1 (x0 + 12) (Int32.toNatClampNeg x1))).1 (x0 + 13) (Int32.toNatClampNeg x1))).1 (x0 + 14) (Int32.toNatClampNeg x1))).1 (x0 + 15) (Int32.toNatClampNeg x1))).1 (x0 + 16) (Int32.toNatClampNeg x1))) (x0 + 8) (Int32.toNatClampNeg x1) (1 : Int32)) [] rfl (fun _ => rfl) rfl ?_
      refine dg_L (pc' := 231) [(1, .int (x1 + (1 : Int32))), (0, .ref x0)] [] rfl (fun _ => rfl) rfl ?_
      refine dw_s (pc' := 155) [] rfl (fun _ => rfl) ?_
      exact dw_j rfl (fun lv1 hv => ih (x1 + (1 : Int32)) (dc_wi (dc_wi (dc_wi (dc_wi (dc_wi (dc_wi m (x0 + 3) (Int32.toNatClampNeg x1) (m.1 (x0 + 12) (Int32.toNatClampNeg x1))) (x0 + 4) (Int32.toNatClampNeg x1) ((dc_wi m (x0 + 3) (Int32.toNatClampNeg x1) (m.1 (x0 + 12) (Int32.toNatClampNeg x1))).1 (x0 + 13) (Int32.toNatClampNeg x1))) (x0 + 5) (Int32.toNatClampNeg x1) ((dc_wi (dc_wi m (x0 + 3) (Int32.toNatClampNeg x1) (m.1 (x0 + 12) (Int32.toNatClampNeg x1))) (x0 + 4) (Int32.toNatClampNeg x1) ((dc_wi m (x0 + 3) (Int32.toNatClampNeg x1) (m.1 (x0 + 12) (Int32.toNatClampNeg x1))).1 (x0 + 13) (Int32.toNatClampNeg x1))).1 (x0 + 14) (Int32.toNatClampNeg x1))) (x0 + 6) (Int32.toNatClampNeg x1) ((dc_wi (dc_wi (dc_wi m (x0 + 3) (Int32.toNatClampNeg x1) (m.1 (x0 + 12) (Int32.toNatClampNeg x1))) (x0 + 4) (Int32.toNatClampNeg x1) ((dc_wi m (x0 + 3) (Int32.toNatClampNeg x1) (m.1 (x0 + 12) (Int32.toNatClampNeg x1))).1 (x0 + 13) (Int32.toNatClampNeg x1))) (x0 + 5) (Int32.toNatClampNeg x1) ((dc_wi (dc_wi m (x0 + 3) (Int32.toNatClampNeg x1) (m.1 (x0 + 12) (Int32.toNatClampNeg x1))) (x0 + 4) (Int32.toNatClampNeg x1) ((dc_wi m (x0 + 3) (Int32.toNatClampNeg x1) (m.1 (x0 + 12) (Int32.toNatClampNeg x1))).1 (x0 + 13) (Int32.toNatClampNeg x1))).1 (x0 + 14) (Int32.toNatClampNeg x1))).1 (x0 + 15) (Int32.toNatClampNeg x1))) (x0 + 7) (Int32.toNatClampNeg x1) ((dc_wi (dc_wi (dc_wi (dc_wi m (x0 + 3) (Int32.toNatClampNeg x1) (m.1 (x0 + 12) (Int32.toNatClampNeg x1))) (x0 + 4) (Int32.toNatClampNeg x1) ((dc_wi m (x0 + 3) (Int32.toNatClampNeg x1) (m.1 (x0 + 12) (Int32.toNatClampNeg x1))).1 (x0 + 13) (Int32.toNatClampNeg x1))) (x0 + 5) (Int32.toNatClampNeg x1) ((dc_wi (dc_wi m (x0 + 3) (Int32.toNatClampNeg x1) (m.1 (x0 + 12) (Int32.toNatClampNeg x1))) (x0 + 4) (Int32.toNatClampNeg x1) ((dc_wi m (x0 + 3) (Int32.toNatClampNeg x1) (m.1 (x0 + 12) (Int32.toNatClampNeg x1))).1 (x0 + 13) (Int32.toNatClampNeg x1))).1 (x0 + 14) (Int32.toNatClampNeg x1))) (x0 + 6) (Int32.toNatClampNeg x1) ((dc_wi (dc_wi (dc_wi m (x0 + 3) (Int32.toNatClampNeg x1) (m.1 (x0 + 12) (Int32.toNatClampNeg x1))) (x0 + 4) (Int32.toNatClampNeg x1) ((dc_wi m (x0 + 3) (Int32.toNatClampNeg x1) (m.1 (x0 + 12) (Int32.toNatClampNeg x1))).1 (x0 + 13) (Int32.toNatClampNeg x1))) (x0 + 5) (Int32.toNatClampNeg x1) ((dc_wi (dc_wi m (x0 + 3) (Int32.toNatClampNeg x1) (m.1 (x0 + 12) (Int32.toNatClampNeg x1))) (x0 + 4) (Int32.toNatClampNeg x1) ((dc_wi m (x0 + 3) (Int32.toNatClampNeg x1) (m.1 (x0 + 12) (Int32.toNatClampNeg x1))).1 (x0 + 13) (Int32.toNatClampNeg x1))).1 (x0 + 14) (Int32.toNatClampNeg x1))).1 (x0 + 15) (Int32.toNatClampNeg x1))).1 (x0 + 16) (Int32.toNatClampNeg x1))) (x0 + 8) (Int32.toNatClampNeg x1) (1 : Int32)) lv1 (hv.1 _ rfl) (hv.2.1 _ rfl))
noncomputable def d_X10_text_l117b (x0 : Nat) (x1 : Int32) (m : dc_M) : Option ((Int32 × dc_M) ⊕ (Int32 × dc_M)) :=
  (if 6 ≤ (Int32.toInt x1) then ((d_X10_text_l155 x0 (0 : Int32) m).map (fun z => Sum.inr (z))) else some (Sum.inl ((x1 + (1 : Int32)), (dc_wi (dc_wi m (x0 + 1) (Int32.toNatClampNeg x1) (m.1 (x0 + 10) (Int32.toNatClampNeg x1))) (x0 + 2) (Int32.toNatClampNeg x1) ((dc_wi m (x0 + 1) (Int32.toNatClampNeg x1) (m.1 (x0 + 10) (Int32.toNatClampNeg x1))).1 (x0 + 11) (Int32.toNatClampNeg x1))))))
noncomputable def d_X10_text_l117s (x0 : Nat) : (Int32 × dc_M) → Option ((Int32 × dc_M) ⊕ (Int32 × dc_M)) := fun s => d_X10_text_l117b x0 s.1 s.2
noncomputable def d_X10_text_l117 (x0 : Nat) (x1 : Int32) (m : dc_M) : Option (Int32 × dc_M) := dc_lp (d_X10_text_l117s x0) (x1, m)
set_option maxHeartbeats 8000000 in
theorem k_X10_text_l117 {u : Nat} {Φ : (Option (Int32 × dc_M)) → Option Value → dc_M → Prop} (x0 : Nat) (kR : ∀ (v : Int32) (m : dc_M), Φ (some ((v, m))) (some (.int v)) m) : ∀ (N : Nat), ∀ (x1 : Int32) (m : dc_M) (lv : ab_L), ab_lk lv 0 = some (.ref x0) → ab_lk lv 1 = some (.int x1) → dc_pv u N ab_M_X10_text 117 lv [] m (Φ (d_X10_text_l117 x0 x1 m)) := by
  intro N
  induction N with
  | zero => intros; exact dc_pv_zero
  | succ N ih =>
    intro x1 m lv f0 f1
    refine dc_ok (C := C_X10_text) (S := S_X10_text) CO_X10_text 400 117 [(0, .ref x0), (1, .int x1)] lv [] m (dc_sub_cons f0 (dc_sub_cons f1 (dc_sub_nil))) ?_
    unfold d_X10_text_l117
    rw [dc_lp_eq]
    show (fun t x => dc_lf u N ab_M_X10_text (Φ (Option.bind t (dc_bk (d_X10_text_l117s x0)))) x) (d_X10_text_l117b x0 x1 m) _
    dsimp only
    unfold d_X10_text_l117b
    refine dg_s (pc' := 118) [.int x1] rfl (fun _ => rfl) rfl ?_
    refine dg_s (pc' := 120) [.int (6 : Int32), .int x1] rfl (fun _ => rfl) rfl ?_
    refine dw_if (fun t => Φ (Option.bind t (dc_bk (d_X10_text_l117s x0)))) (6 ≤ (Int32.toInt x1)) [] 153 123 rfl (fun _ => rfl) (fun c0 => ?_) (fun c0 => ?_)
    · refine dw_g rfl ?_
      refine dg_s (pc' := 154) [.int (0 : Int32)] rfl (fun _ => rfl) rfl ?_
      refine dw_L (pc' := 155) [(1, .int (0 : Int32)), (0, .ref x0)] [] rfl (fun _ => rfl) ?_
      exact dw_j rfl (fun lv1 hv => k_X10_text_l155 (Φ := (fun t => Φ (Option.bind (t.map (fun z => Sum.inr (z))) (dc_bk (d_X10_text_l117s x0))))) x0 (fun _a _b => kR _a _b) N  (0 : Int32) m lv1 (hv.1 _ rfl) (hv.2.1 _ rfl))
    · refine dw_g rfl ?_
      refine dg_s (pc' := 124) [.ref x0] rfl (fun _ => rfl) rfl ?_
      refine dg_s (pc' := 127) [.ref (x0 + 1)] rfl (fun _ => rfl) rfl ?_
      refine dg_s (pc' := 128) [.int x1, .ref (x0 + 1)] rfl (fun _ => rfl) rfl ?_
      refine dg_s (pc' := 129) [.ref x0, .int x1, .ref (x0 + 1)] rfl (fun _ => rfl) rfl ?_
      refine dg_s (pc' := 132) [.ref (x0 + 10), .int x1, .ref (x0 + 1)] rfl (fun _ => rfl) rfl ?_
      refine dg_s (pc' := 133) [.int x1, .ref (x0 + 10), .int x1, .ref (x0 + 1)] rfl (fun _ => rfl) rfl ?_
      refine dg_s (pc' := 134) [.int (m.1 (x0 + 10) (Int32.toNatClampNeg x1)), .int x1, .ref (x0 + 1)] rfl (fun _ => rfl) rfl ?_
      refine dg_m (pc' := 135) (dc_wi m (x0 + 1) (Int32.toNatClampNeg x1) (m.1 (x0 + 10) (Int32.toNatClampNeg x1))) [] rfl (fun _ => rfl) rfl ?_
      refine dg_s (pc' := 136) [.ref x0] rfl (fun _ => rfl) rfl ?_
      refine dg_s (pc' := 139) [.ref (x0 + 2)] rfl (fun _ => rfl) rfl ?_
      refine dg_s (pc' := 140) [.int x1, .ref (x0 + 2)] rfl (fun _ => rfl) rfl ?_
      refine dg_s (pc' := 141) [.ref x0, .int x1, .ref (x0 + 2)] rfl (fun _ => rfl) rfl ?_
      refine dg_s (pc' := 144) [.ref (x0 + 11), .int x1, .ref (x0 + 2)] rfl (fun _ => rfl) rfl ?_
      refine dg_s (pc' := 145) [.int x1, .ref (x0 + 11), .int x1, .ref (x0 + 2)] rfl (fun _ => rfl) rfl ?_
      refine dg_s (pc' := 146) [.int ((dc_wi m (x0 + 1) (Int32.toNatClampNeg x1) (m.1 (x0 + 10) (Int32.toNatClampNeg x1))).1 (x0 + 11) (Int32.toNatClampNeg x1)), .int x1, .ref (x0 + 2)] rfl (fun _ => rfl) rfl ?_
      refine dg_m (pc' := 147) (dc_wi (dc_wi m (x0 + 1) (Int32.toNatClampNeg x1) (m.1 (x0 + 10) (Int32.toNatClampNeg x1))) (x0 + 2) (Int32.toNatClampNeg x1) ((dc_wi m (x0 + 1) (Int32.toNatClampNeg x1) (m.1 (x0 + 10) (Int32.toNatClampNeg x1))).1 (x0 + 11) (Int32.toNatClampNeg x1))) [] rfl (fun _ => rfl) rfl ?_
      refine dg_L (pc' := 150) [(1, .int (x1 + (1 : Int32))), (0, .ref x0)] [] rfl (fun _ => rfl) rfl ?_
      refine dw_s (pc' := 117) [] rfl (fun _ => rfl) ?_
      exact dw_j rfl (fun lv1 hv => ih (x1 + (1 : Int32)) (dc_wi (dc_wi m (x0 + 1) (Int32.toNatClampNeg x1) (m.1 (x0 + 10) (Int32.toNatClampNeg x1))) (x0 + 2) (Int32.toNatClampNeg x1) ((dc_wi m (x0 + 1) (Int32.toNatClampNeg x1) (m.1 (x0 + 10) (Int32.toNatClampNeg x1))).1 (x0 + 11) (Int32.toNatClampNeg x1))) lv1 (hv.1 _ rfl) (hv.2.1 _ rfl))
noncomputable def d_X10_text_b55 (x0 : Nat) (m : dc_M) : Option (Int32 × dc_M) :=
  (if (Int32.toInt ((dc_wi (dc_wi m x0 13 (0 : Int32)) x0 14 ((dc_wi m x0 13 (0 : Int32)).1 x0 15)).1 x0 15)) ≤ 0 then (d_X10_text_l117 x0 (0 : Int32) (dc_wi (dc_wi (dc_wi (dc_wi (dc_wi (dc_wi m x0 13 (0 : Int32)) x0 14 ((dc_wi m x0 13 (0 : Int32)).1 x0 15)) x0 0 ((dc_wi (dc_wi m x0 13 (0 : Int32)) x0 14 ((dc_wi m x0 13 (0 : Int32)).1 x0 15)).1 x0 21)) x0 3 ((dc_wi (dc_wi (dc_wi m x0 13 (0 : Int32)) x0 14 ((dc_wi m x0 13 (0 : Int32)).1 x0 15)) x0 0 ((dc_wi (dc_wi m x0 13 (0 : Int32)) x0 14 ((dc_wi m x0 13 (0 : Int32)).1 x0 15)).1 x0 21)).1 x0 24)) x0 10 ((dc_wi (dc_wi (dc_wi (dc_wi m x0 13 (0 : Int32)) x0 14 ((dc_wi m x0 13 (0 : Int32)).1 x0 15)) x0 0 ((dc_wi (dc_wi m x0 13 (0 : Int32)) x0 14 ((dc_wi m x0 13 (0 : Int32)).1 x0 15)).1 x0 21)) x0 3 ((dc_wi (dc_wi (dc_wi m x0 13 (0 : Int32)) x0 14 ((dc_wi m x0 13 (0 : Int32)).1 x0 15)) x0 0 ((dc_wi (dc_wi m x0 13 (0 : Int32)) x0 14 ((dc_wi m x0 13 (0 : Int32)).1 x0 15)).1 x0 21)).1 x0 24)).1 x0 30)) x0 11 ((dc_wi (dc_wi (dc_wi (dc_wi (dc_wi m x0 13 (0 : Int32)) x0 14 ((dc_wi m x0 13 (0 : Int32)).1 x0 15)) x0 0 ((dc_wi (dc_wi m x0 13 (0 : Int32)) x0 14 ((dc_wi m x0 13 (0 : Int32)).1 x0 15)).1 x0 21)) x0 3 ((dc_wi (dc_wi (dc_wi m x0 13 (0 : Int32)) x0 14 ((dc_wi m x0 13 (0 : Int32)).1 x0 15)) x0 0 ((dc_wi (dc_wi m x0 13 (0 : Int32)) x0 14 ((dc_wi m x0 13 (0 : Int32)).1 x0 15)).1 x0 21)).1 x0 24)) x0 10 ((dc_wi (dc_wi (dc_wi (dc_wi m x0 13 (0 : Int32)) x0 14 ((dc_wi m x0 13 (0 : Int32)).1 x0 15)) x0 0 ((dc_wi (dc_wi m x0 13 (0 : Int32)) x0 14 ((dc_wi m x0 13 (0 : Int32)).1 x0 15)).1 x0 21)) x0 3 ((dc_wi (dc_wi (dc_wi m x0 13 (0 : Int32)) x0 14 ((dc_wi m x0 13 (0 : Int32)).1 x0 15)) x0 0 ((dc_wi (dc_wi m x0 13 (0 : Int32)) x0 14 ((dc_wi m x0 13 (0 : Int32)).1 x0 15)).1 x0 21)).1 x0 24)).1 x0 30)).1 x0 31))) else some ((((-10 : Int32) - ((dc_wi (dc_wi m x0 13 (0 : Int32)) x0 14 ((dc_wi m x0 13 (0 : Int32)).1 x0 15)).1 x0 16)), (dc_wi (dc_wi m x0 13 (0 : Int32)) x0 14 ((dc_wi m x0 13 (0 : Int32)).1 x0 15)))))
set_option maxHeartbeats 8000000 in
theorem k_X10_text_b55 {u : Nat} {N : Nat} {Φ : (Option (Int32 × dc_M)) → Option Value → dc_M → Prop} (x0 : Nat) (m : dc_M) (kR : ∀ (v : Int32) (m : dc_M), Φ (some ((v, m))) (some (.int v)) m)  {lv : ab_L} (f0 : ab_lk lv 0 = some (.ref x0)) : dc_pv u N ab_M_X10_text 55 lv [] m (Φ (d_X10_text_b55 x0 m)) := by
  refine dc_pv.mono (dc_ok (C := C_X10_text) (S := S_X10_text) CO_X10_text 400 55 [(0, .ref x0)] lv [] m (dc_sub_cons f0 (dc_sub_nil)) ?_) (Nat.le_succ N)
  unfold d_X10_text_b55
  refine dg_s (pc' := 56) [.ref x0] rfl (fun _ => rfl) rfl ?_
  refine dg_s (pc' := 57) [.int (0 : Int32), .ref x0] rfl (fun _ => rfl) rfl ?_
  refine dg_m (pc' := 60) (dc_wi m x0 13 (0 : Int32)) [] rfl (fun _ => rfl) rfl ?_
  refine dg_s (pc' := 61) [.ref x0] rfl (fun _ => rfl) rfl ?_
  refine dg_s (pc' := 62) [.ref x0, .ref x0] rfl (fun _ => rfl) rfl ?_
  refine dg_s (pc' := 65) [.int ((dc_wi m x0 13 (0 : Int32)).1 x0 15), .ref x0] rfl (fun _ => rfl) rfl ?_
  refine dg_m (pc' := 68) (dc_wi (dc_wi m x0 13 (0 : Int32)) x0 14 ((dc_wi m x0 13 (0 : Int32)).1 x0 15)) [] rfl (fun _ => rfl) rfl ?_
  refine dg_s (pc' := 69) [.ref x0] rfl (fun _ => rfl) rfl ?_
  refine dg_s (pc' := 72) [.int ((dc_wi (dc_wi m x0 13 (0 : Int32)) x0 14 ((dc_wi m x0 13 (0 : Int32)).1 x0 15)).1 x0 15)] rfl (fun _ => rfl) rfl ?_
  refine dw_if (fun t => Φ t) ((Int32.toInt ((dc_wi (dc_wi m x0 13 (0 : Int32)) x0 14 ((dc_wi m x0 13 (0 : Int32)).1 x0 15)).1 x0 15)) ≤ 0) [] 83 75 rfl (fun _ => rfl) (fun c0 => ?_) (fun c0 => ?_)
  · refine dw_g rfl ?_
    refine dg_s (pc' := 84) [.ref x0] rfl (fun _ => rfl) rfl ?_
    refine dg_s (pc' := 85) [.ref x0, .ref x0] rfl (fun _ => rfl) rfl ?_
    refine dg_s (pc' := 88) [.int ((dc_wi (dc_wi m x0 13 (0 : Int32)) x0 14 ((dc_wi m x0 13 (0 : Int32)).1 x0 15)).1 x0 21), .ref x0] rfl (fun _ => rfl) rfl ?_
    refine dg_m (pc' := 91) (dc_wi (dc_wi (dc_wi m x0 13 (0 : Int32)) x0 14 ((dc_wi m x0 13 (0 : Int32)).1 x0 15)) x0 0 ((dc_wi (dc_wi m x0 13 (0 : Int32)) x0 14 ((dc_wi m x0 13 (0 : Int32)).1 x0 15)).1 x0 21)) [] rfl (fun _ => rfl) rfl ?_
    refine dg_s (pc' := 92) [.ref x0] rfl (fun _ => rfl) rfl ?_
    refine dg_s (pc' := 93) [.ref x0, .ref x0] rfl (fun _ => rfl) rfl ?_
    refine dg_s (pc' := 96) [.int ((dc_wi (dc_wi (dc_wi m x0 13 (0 : Int32)) x0 14 ((dc_wi m x0 13 (0 : Int32)).1 x0 15)) x0 0 ((dc_wi (dc_wi m x0 13 (0 : Int32)) x0 14 ((dc_wi m x0 13 (0 : Int32)).1 x0 15)).1 x0 21)).1 x0 24), .ref x0] rfl (fun _ => rfl) rfl ?_
    refine dg_m (pc' := 99) (dc_wi (dc_wi (dc_wi (dc_wi m x0 13 (0 : Int32)) x0 14 ((dc_wi m x0 13 (0 : Int32)).1 x0 15)) x0 0 ((dc_wi (dc_wi m x0 13 (0 : Int32)) x0 14 ((dc_wi m x0 13 (0 : Int32)).1 x0 15)).1 x0 21)) x0 3 ((dc_wi (dc_wi (dc_wi m x0 13 (0 : Int32)) x0 14 ((dc_wi m x0 13 (0 : Int32)).1 x0 15)) x0 0 ((dc_wi (dc_wi m x0 13 (0 : Int32)) x0 14 ((dc_wi m x0 13 (0 : Int32)).1 x0 15)).1 x0 21)).1 x0 24)) [] rfl (fun _ => rfl) rfl ?_
    refine dg_s (pc' := 100) [.ref x0] rfl (fun _ => rfl) rfl ?_
    refine dg_s (pc' := 101) [.ref x0, .ref x0] rfl (fun _ => rfl) rfl ?_
    refine dg_s (pc' := 104) [.int ((dc_wi (dc_wi (dc_wi (dc_wi m x0 13 (0 : Int32)) x0 14 ((dc_wi m x0 13 (0 : Int32)).1 x0 15)) x0 0 ((dc_wi (dc_wi m x0 13 (0 : Int32)) x0 14 ((dc_wi m x0 13 (0 : Int32)).1 x0 15)).1 x0 21)) x0 3 ((dc_wi (dc_wi (dc_wi m x0 13 (0 : Int32)) x0 14 ((dc_wi m x0 13 (0 : Int32)).1 x0 15)) x0 0 ((dc_wi (dc_wi m x0 13 (0 : Int32)) x0 14 ((dc_wi m x0 13 (0 : Int32)).1 x0 15)).1 x0 21)).1 x0 24)).1 x0 30), .ref x0] rfl (fun _ => rfl) rfl ?_
    refine dg_m (pc' := 107) (dc_wi (dc_wi (dc_wi (dc_wi (dc_wi m x0 13 (0 : Int32)) x0 14 ((dc_wi m x0 13 (0 : Int32)).1 x0 15)) x0 0 ((dc_wi (dc_wi m x0 13 (0 : Int32)) x0 14 ((dc_wi m x0 13 (0 : Int32)).1 x0 15)).1 x0 21)) x0 3 ((dc_wi (dc_wi (dc_wi m x0 13 (0 : Int32)) x0 14 ((dc_wi m x0 13 (0 : Int32)).1 x0 15)) x0 0 ((dc_wi (dc_wi m x0 13 (0 : Int32)) x0 14 ((dc_wi m x0 13 (0 : Int32)).1 x0 15)).1 x0 21)).1 x0 24)) x0 10 ((dc_wi (dc_wi (dc_wi (dc_wi m x0 13 (0 : Int32)) x0 14 ((dc_wi m x0 13 (0 : Int32)).1 x0 15)) x0 0 ((dc_wi (dc_wi m x0 13 (0 : Int32)) x0 14 ((dc_wi m x0 13 (0 : Int32)).1 x0 15)).1 x0 21)) x0 3 ((dc_wi (dc_wi (dc_wi m x0 13 (0 : Int32)) x0 14 ((dc_wi m x0 13 (0 : Int32)).1 x0 15)) x0 0 ((dc_wi (dc_wi m x0 13 (0 : Int32)) x0 14 ((dc_wi m x0 13 (0 : Int32)).1 x0 15)).1 x0 21)).1 x0 24)).1 x0 30)) [] rfl (fun _ => rfl) rfl ?_
    refine dg_s (pc' := 108) [.ref x0] rfl (fun _ => rfl) rfl ?_
    refine dg_s (pc' := 109) [.ref x0, .ref x0] rfl (fun _ => rfl) rfl ?_
    refine dg_s (pc' := 112) [.int ((dc_wi (dc_wi (dc_wi (dc_wi (dc_wi m x0 13 (0 : Int32)) x0 14 ((dc_wi m x0 13 (0 : Int32)).1 x0 15)) x0 0 ((dc_wi (dc_wi m x0 13 (0 : Int32)) x0 14 ((dc_wi m x0 13 (0 : Int32)).1 x0 15)).1 x0 21)) x0 3 ((dc_wi (dc_wi (dc_wi m x0 13 (0 : Int32)) x0 14 ((dc_wi m x0 13 (0 : Int32)).1 x0 15)) x0 0 ((dc_wi (dc_wi m x0 13 (0 : Int32)) x0 14 ((dc_wi m x0 13 (0 : Int32)).1 x0 15)).1 x0 21)).1 x0 24)) x0 10 ((dc_wi (dc_wi (dc_wi (dc_wi m x0 13 (0 : Int32)) x0 14 ((dc_wi m x0 13 (0 : Int32)).1 x0 15)) x0 0 ((dc_wi (dc_wi m x0 13 (0 : Int32)) x0 14 ((dc_wi m x0 13 (0 : Int32)).1 x0 15)).1 x0 21)) x0 3 ((dc_wi (dc_wi (dc_wi m x0 13 (0 : Int32)) x0 14 ((dc_wi m x0 13 (0 : Int32)).1 x0 15)) x0 0 ((dc_wi (dc_wi m x0 13 (0 : Int32)) x0 14 ((dc_wi m x0 13 (0 : Int32)).1 x0 15)).1 x0 21)).1 x0 24)).1 x0 30)).1 x0 31), .ref x0] rfl (fun _ => rfl) rfl ?_
    refine dg_m (pc' := 115) (dc_wi (dc_wi (dc_wi (dc_wi (dc_wi (dc_wi m x0 13 (0 : Int32)) x0 14 ((dc_wi m x0 13 (0 : Int32)).1 x0 15)) x0 0 ((dc_wi (dc_wi m x0 13 (0 : Int32)) x0 14 ((dc_wi m x0 13 (0 : Int32)).1 x0 15)).1 x0 21)) x0 3 ((dc_wi (dc_wi (dc_wi m x0 13 (0 : Int32)) x0 14 ((dc_wi m x0 13 (0 : Int32)).1 x0 15)) x0 0 ((dc_wi (dc_wi m x0 13 (0 : Int32)) x0 14 ((dc_wi m x0 13 (0 : Int32)).1 x0 15)).1 x0 21)).1 x0 24)) x0 10 ((dc_wi (dc_wi (dc_wi (dc_wi m x0 13 (0 : Int32)) x0 14 ((dc_wi m x0 13 (0 : Int32)).1 x0 15)) x0 0 ((dc_wi (dc_wi m x0 13 (0 : Int32)) x0 14 ((dc_wi m x0 13 (0 : Int32)).1 x0 15)).1 x0 21)) x0 3 ((dc_wi (dc_wi (dc_wi m x0 13 (0 : Int32)) x0 14 ((dc_wi m x0 13 (0 : Int32)).1 x0 15)) x0 0 ((dc_wi (dc_wi m x0 13 (0 : Int32)) x0 14 ((dc_wi m x0 13 (0 : Int32)).1 x0 15)).1 x0 21)).1 x0 24)).1 x0 30)) x0 11 ((dc_wi (dc_wi (dc_wi (dc_wi (dc_wi m x0 13 (0 : Int32)) x0 14 ((dc_wi m x0 13 (0 : Int32)).1 x0 15)) x0 0 ((dc_wi (dc_wi m x0 13 (0 : Int32)) x0 14 ((dc_wi m x0 13 (0 : Int32)).1 x0 15)).1 x0 21)) x0 3 ((dc_wi (dc_wi (dc_wi m x0 13 (0 : Int32)) x0 14 ((dc_wi m x0 13 (0 : Int32)).1 x0 15)) x0 0 ((dc_wi (dc_wi m x0 13 (0 : Int32)) x0 14 ((dc_wi m x0 13 (0 : Int32)).1 x0 15)).1 x0 21)).1 x0 24)) x0 10 ((dc_wi (dc_wi (dc_wi (dc_wi m x0 13 (0 : Int32)) x0 14 ((dc_wi m x0 13 (0 : Int32)).1 x0 15)) x0 0 ((dc_wi (dc_wi m x0 13 (0 : Int32)) x0 14 ((dc_wi m x0 13 (0 : Int32)).1 x0 15)).1 x0 21)) x0 3 ((dc_wi (dc_wi (dc_wi m x0 13 (0 : Int32)) x0 14 ((dc_wi m x0 13 (0 : Int32)).1 x0 15)) x0 0 ((dc_wi (dc_wi m x0 13 (0 : Int32)) x0 14 ((dc_wi m x0 13 (0 : Int32)).1 x0 15)).1 x0 21)).1 x0 24)).1 x0 30)).1 x0 31)) [] rfl (fun _ => rfl) rfl ?_
    refine dg_s (pc' := 116) [.int (0 : Int32)] rfl (fun _ => rfl) rfl ?_
    refine dw_L (pc' := 117) [(1, .int (0 : Int32)), (0, .ref x0)] [] rfl (fun _ => rfl) ?_
    exact dw_j rfl (fun lv1 hv => k_X10_text_l117 (Φ := (fun t => Φ t)) x0 (fun _a _b => kR _a _b) N  (0 : Int32) (dc_wi (dc_wi (dc_wi (dc_wi (dc_wi (dc_wi m x0 13 (0 : Int32)) x0 14 ((dc_wi m x0 13 (0 : Int32)).1 x0 15)) x0 0 ((dc_wi (dc_wi m x0 13 (0 : Int32)) x0 14 ((dc_wi m x0 13 (0 : Int32)).1 x0 15)).1 x0 21)) x0 3 ((dc_wi (dc_wi (dc_wi m x0 13 (0 : Int32)) x0 14 ((dc_wi m x0 13 (0 : Int32)).1 x0 15)) x0 0 ((dc_wi (dc_wi m x0 13 (0 : Int32)) x0 14 ((dc_wi m x0 13 (0 : Int32)).1 x0 15)).1 x0 21)).1 x0 24)) x0 10 ((dc_wi (dc_wi (dc_wi (dc_wi m x0 13 (0 : Int32)) x0 14 ((dc_wi m x0 13 (0 : Int32)).1 x0 15)) x0 0 ((dc_wi (dc_wi m x0 13 (0 : Int32)) x0 14 ((dc_wi m x0 13 (0 : Int32)).1 x0 15)).1 x0 21)) x0 3 ((dc_wi (dc_wi (dc_wi m x0 13 (0 : Int32)) x0 14 ((dc_wi m x0 13 (0 : Int32)).1 x0 15)) x0 0 ((dc_wi (dc_wi m x0 13 (0 : Int32)) x0 14 ((dc_wi m x0 13 (0 : Int32)).1 x0 15)).1 x0 21)).1 x0 24)).1 x0 30)) x0 11 ((dc_wi (dc_wi (dc_wi (dc_wi (dc_wi m x0 13 (0 : Int32)) x0 14 ((dc_wi m x0 13 (0 : Int32)).1 x0 15)) x0 0 ((dc_wi (dc_wi m x0 13 (0 : Int32)) x0 14 ((dc_wi m x0 13 (0 : Int32)).1 x0 15)).1 x0 21)) x0 3 ((dc_wi (dc_wi (dc_wi m x0 13 (0 : Int32)) x0 14 ((dc_wi m x0 13 (0 : Int32)).1 x0 15)) x0 0 ((dc_wi (dc_wi m x0 13 (0 : Int32)) x0 14 ((dc_wi m x0 13 (0 : Int32)).1 x0 15)).1 x0 21)).1 x0 24)) x0 10 ((dc_wi (dc_wi (dc_wi (dc_wi m x0 13 (0 : Int32)) x0 14 ((dc_wi m x0 13 (0 : Int32)).1 x0 15)) x0 0 ((dc_wi (dc_wi m x0 13 (0 : Int32)) x0 14 ((dc_wi m x0 13 (0 : Int32)).1 x0 15)).1 x0 21)) x0 3 ((dc_wi (dc_wi (dc_wi m x0 13 (0 : Int32)) x0 14 ((dc_wi m x0 13 (0 : Int32)).1 x0 15)) x0 0 ((dc_wi (dc_wi m x0 13 (0 : Int32)) x0 14 ((dc_wi m x0 13 (0 : Int32)).1 x0 15)).1 x0 21)).1 x0 24)).1 x0 30)).1 x0 31)) lv1 (hv.1 _ rfl) (hv.2.1 _ rfl))
  · refine dw_g rfl ?_
    refine dg_s (pc' := 77) [.int (-10 : Int32)] rfl (fun _ => rfl) rfl ?_
    refine dg_s (pc' := 78) [.ref x0, .int (-10 : Int32)] rfl (fun _ => rfl) rfl ?_
    refine dg_s (pc' := 81) [.int ((dc_wi (dc_wi m x0 13 (0 : Int32)) x0 14 ((dc_wi m x0 13 (0 : Int32)).1 x0 15)).1 x0 16), .int (-10 : Int32)] rfl (fun _ => rfl) rfl ?_
    refine dg_s (pc' := 82) [.int ((-10 : Int32) - ((dc_wi (dc_wi m x0 13 (0 : Int32)) x0 14 ((dc_wi m x0 13 (0 : Int32)).1 x0 15)).1 x0 16))] rfl (fun _ => rfl) rfl ?_
    exact dw_r (some (.inl (some (.int ((-10 : Int32) - ((dc_wi (dc_wi m x0 13 (0 : Int32)) x0 14 ((dc_wi m x0 13 (0 : Int32)).1 x0 15)).1 x0 16))), (dc_wi (dc_wi m x0 13 (0 : Int32)) x0 14 ((dc_wi m x0 13 (0 : Int32)).1 x0 15))))) rfl (fun _ => rfl) (kR _ _)
noncomputable def d_X10_text_l34b (x0 : Nat)  (m : dc_M) : Option (dc_M ⊕ (Int32 × dc_M)) :=
  (if ¬ (Int32.toInt (m.1 x0 15)) = 0 then ((d_X10_text_b55 x0 m).map (fun z => Sum.inr (z))) else (if (Int32.toInt (m.1 x0 19)) = 0 then ((d_X10_text_b55 x0 m).map (fun z => Sum.inr (z))) else ((d_X10_readLine x0 m).bind (fun q1 => some (Sum.inl q1)))))
noncomputable def d_X10_text_l34s (x0 : Nat) : dc_M → Option (dc_M ⊕ (Int32 × dc_M)) := fun s => d_X10_text_l34b x0 s
noncomputable def d_X10_text_l34 (x0 : Nat)  (m : dc_M) : Option (Int32 × dc_M) := dc_lp (d_X10_text_l34s x0) m
set_option maxHeartbeats 8000000 in
theorem k_X10_text_l34 {u : Nat} {Φ : (Option (Int32 × dc_M)) → Option Value → dc_M → Prop} (x0 : Nat) (kR : ∀ (v : Int32) (m : dc_M), Φ (some ((v, m))) (some (.int v)) m) : ∀ (N : Nat), ∀  (m : dc_M) (lv : ab_L), ab_lk lv 0 = some (.ref x0) → dc_pv u N ab_M_X10_text 34 lv [] m (Φ (d_X10_text_l34 x0  m)) := by
  intro N
  induction N with
  | zero => intros; exact dc_pv_zero
  | succ N ih =>
    intro m lv f0
    refine dc_ok (C := C_X10_text) (S := S_X10_text) CO_X10_text 400 34 [(0, .ref x0)] lv [] m (dc_sub_cons f0 (dc_sub_nil)) ?_
    unfold d_X10_text_l34
    rw [dc_lp_eq]
    show (fun t x => dc_lf u N ab_M_X10_text (Φ (Option.bind t (dc_bk (d_X10_text_l34s x0)))) x) (d_X10_text_l34b x0  m) _
    dsimp only
    unfold d_X10_text_l34b
    refine dg_s (pc' := 35) [.ref x0] rfl (fun _ => rfl) rfl ?_
    refine dg_s (pc' := 38) [.int (m.1 x0 15)] rfl (fun _ => rfl) rfl ?_
    refine dw_if (fun t => Φ (Option.bind t (dc_bk (d_X10_text_l34s x0)))) (¬ (Int32.toInt (m.1 x0 15)) = 0) [] 55 41 rfl (fun _ => rfl) (fun c0 => ?_) (fun c0 => ?_)
    · exact dw_j rfl (fun lv1 hv => k_X10_text_b55 (Φ := (fun t => Φ (Option.bind (t.map (fun z => Sum.inr (z))) (dc_bk (d_X10_text_l34s x0))))) x0 m (fun _a _b => kR _a _b)  (hv.1 _ rfl))
    · refine dw_g rfl ?_
      refine dg_s (pc' := 42) [.ref x0] rfl (fun _ => rfl) rfl ?_
      refine dg_s (pc' := 45) [.int (m.1 x0 19)] rfl (fun _ => rfl) rfl ?_
      refine dw_if (fun t => Φ (Option.bind t (dc_bk (d_X10_text_l34s x0)))) ((Int32.toInt (m.1 x0 19)) = 0) [] 55 48 rfl (fun _ => rfl) (fun c1 => ?_) (fun c1 => ?_)
      · exact dw_j rfl (fun lv1 hv => k_X10_text_b55 (Φ := (fun t => Φ (Option.bind (t.map (fun z => Sum.inr (z))) (dc_bk (d_X10_text_l34s x0))))) x0 m (fun _a _b => kR _a _b)  (hv.1 _ rfl))
      · refine dw_g rfl ?_
        refine dg_s (pc' := 49) [.ref x0] rfl (fun _ => rfl) rfl ?_
        refine dw_b (fun t => Φ (Option.bind t (dc_bk (d_X10_text_l34s x0)))) (pc' := 52) (fun q1 => []) (fun q1 => q1) rfl (fun _ => rfl) (fun q1 => ?_)
        refine dw_g rfl ?_
        refine dw_s (pc' := 34) [] rfl (fun _ => rfl) ?_
        exact dw_j rfl (fun lv1 hv => ih q1 lv1 (hv.1 _ rfl))
noncomputable def d_X10_text (x0 : Nat) (m : dc_M) : Option (Int32 × dc_M) :=
  ((d_X10_next x0 (dc_wi (dc_wi (dc_wi (dc_wi (dc_wi (dc_wi m x0 15 (0 : Int32)) x0 17 (0 : Int32)) x0 21 (0 : Int32)) x0 24 (0 : Int32)) x0 30 (0 : Int32)) x0 31 (0 : Int32))).bind (fun q1 => (d_X10_text_l34 x0 q1)))
set_option maxHeartbeats 8000000 in
theorem k_X10_text {u : Nat} {N : Nat} {Φ : (Option (Int32 × dc_M)) → Option Value → dc_M → Prop} (x0 : Nat) (m : dc_M) (kR : ∀ (v : Int32) (m : dc_M), Φ (some ((v, m))) (some (.int v)) m)  {lv : ab_L} (f0 : ab_lk lv 0 = some (.ref x0)) : dc_pv u N ab_M_X10_text 0 lv [] m (Φ (d_X10_text x0 m)) := by
  refine dc_pv.mono (dc_ok (C := C_X10_text) (S := S_X10_text) CO_X10_text 400 0 [(0, .ref x0)] lv [] m (dc_sub_cons f0 (dc_sub_nil)) ?_) (Nat.le_succ N)
  unfold d_X10_text
  refine dg_s (pc' := 1) [.ref x0] rfl (fun _ => rfl) rfl ?_
  refine dg_s (pc' := 2) [.int (0 : Int32), .ref x0] rfl (fun _ => rfl) rfl ?_
  refine dg_m (pc' := 5) (dc_wi m x0 15 (0 : Int32)) [] rfl (fun _ => rfl) rfl ?_
  refine dg_s (pc' := 6) [.ref x0] rfl (fun _ => rfl) rfl ?_
  refine dg_s (pc' := 7) [.int (0 : Int32), .ref x0] rfl (fun _ => rfl) rfl ?_
  refine dg_m (pc' := 10) (dc_wi (dc_wi m x0 15 (0 : Int32)) x0 17 (0 : Int32)) [] rfl (fun _ => rfl) rfl ?_
  refine dg_s (pc' := 11) [.ref x0] rfl (fun _ => rfl) rfl ?_
  refine dg_s (pc' := 12) [.int (0 : Int32), .ref x0] rfl (fun _ => rfl) rfl ?_
  refine dg_m (pc' := 15) (dc_wi (dc_wi (dc_wi m x0 15 (0 : Int32)) x0 17 (0 : Int32)) x0 21 (0 : Int32)) [] rfl (fun _ => rfl) rfl ?_
  refine dg_s (pc' := 16) [.ref x0] rfl (fun _ => rfl) rfl ?_
  refine dg_s (pc' := 17) [.int (0 : Int32), .ref x0] rfl (fun _ => rfl) rfl ?_
  refine dg_m (pc' := 20) (dc_wi (dc_wi (dc_wi (dc_wi m x0 15 (0 : Int32)) x0 17 (0 : Int32)) x0 21 (0 : Int32)) x0 24 (0 : Int32)) [] rfl (fun _ => rfl) rfl ?_
  refine dg_s (pc' := 21) [.ref x0] rfl (fun _ => rfl) rfl ?_
  refine dg_s (pc' := 22) [.int (0 : Int32), .ref x0] rfl (fun _ => rfl) rfl ?_
  refine dg_m (pc' := 25) (dc_wi (dc_wi (dc_wi (dc_wi (dc_wi m x0 15 (0 : Int32)) x0 17 (0 : Int32)) x0 21 (0 : Int32)) x0 24 (0 : Int32)) x0 30 (0 : Int32)) [] rfl (fun _ => rfl) rfl ?_
  refine dg_s (pc' := 26) [.ref x0] rfl (fun _ => rfl) rfl ?_
  refine dg_s (pc' := 27) [.int (0 : Int32), .ref x0] rfl (fun _ => rfl) rfl ?_
  refine dg_m (pc' := 30) (dc_wi (dc_wi (dc_wi (dc_wi (dc_wi (dc_wi m x0 15 (0 : Int32)) x0 17 (0 : Int32)) x0 21 (0 : Int32)) x0 24 (0 : Int32)) x0 30 (0 : Int32)) x0 31 (0 : Int32)) [] rfl (fun _ => rfl) rfl ?_
  refine dg_s (pc' := 31) [.ref x0] rfl (fun _ => rfl) rfl ?_
  refine dw_b (fun t => Φ t) (pc' := 34) (fun q1 => []) (fun q1 => q1) rfl (fun _ => rfl) (fun q1 => ?_)
  exact dw_j rfl (fun lv1 hv => k_X10_text_l34 (Φ := (fun t => Φ t)) x0 (fun _a _b => kR _a _b) N   q1 lv1 (hv.1 _ rfl))
noncomputable def H_X10_text : dc_H := fun As m k => match As with
  | [.ref x0] => (d_X10_text x0 m).bind (fun q => k (some (.int q.1)) q.2)
  | _ => dc_kz
theorem H_X10_text_ok {u : Nat} : dc_cok u 160 H_X10_text := fun M' hG N As m k P hz hP => by
  obtain rfl : ab_M_X10_text = M' := Option.some.inj hG
  unfold H_X10_text at hP
  split at hP
  · rename_i x0
    exact dc_pv.imp (k_X10_text (Φ := fun (t : Option (Int32 × dc_M)) r m' => P (t.bind (fun q => k (some (.int q.1)) q.2)) → P (k r m')) x0 m (fun _ _ h => h) rfl) (fun r m' h => h hP)
  · exact absurd hP hz
def C_X10_fault : List (Nat × dc_H) := []
theorem CO_X10_fault {u : Nat} : dc_CO u C_X10_fault := dc_CO_nil
def S_X10_fault : List (Nat × List Nat) := []
def d_X10_fault (x0 : Nat) (m : dc_M) : Int32 :=
  (m.1 x0 14)
set_option maxHeartbeats 8000000 in
theorem k_X10_fault {u : Nat} {N : Nat} {Φ : Int32 → Option Value → dc_M → Prop} (x0 : Nat) (m : dc_M) (kR : ∀ (v : Int32), Φ (v) (some (.int v)) m)  {lv : ab_L} (f0 : ab_lk lv 0 = some (.ref x0)) : dc_pv u N ab_M_X10_fault 0 lv [] m (Φ (d_X10_fault x0 m)) := by
  refine dc_pv.mono (dc_ok (C := C_X10_fault) (S := S_X10_fault) CO_X10_fault 400 0 [(0, .ref x0)] lv [] m (dc_sub_cons f0 (dc_sub_nil)) ?_) (Nat.le_succ N)
  unfold d_X10_fault
  refine dg_s (pc' := 1) [.ref x0] rfl (fun _ => rfl) rfl ?_
  refine dg_s (pc' := 4) [.int (m.1 x0 14)] rfl (fun _ => rfl) rfl ?_
  exact dw_r (some (.inl (some (.int (m.1 x0 14)), m))) rfl (fun _ => rfl) (kR _)
def H_X10_fault : dc_H := fun As m k => match As with
  | [.ref x0] => k (some (.int (d_X10_fault x0 m))) m
  | _ => dc_kz
theorem H_X10_fault_ok {u : Nat} : dc_cok u 161 H_X10_fault := fun M' hG N As m k P hz hP => by
  obtain rfl : ab_M_X10_fault = M' := Option.some.inj hG
  unfold H_X10_fault at hP
  split at hP
  · rename_i x0
    exact dc_pv.imp (k_X10_fault (Φ := fun (t : Int32) r m' => P (k (some (.int t)) m) → P (k r m')) x0 m (fun _  h => h) rfl) (fun r m' h => h hP)
  · exact absurd hP hz
def C_X10_isWire : List (Nat × dc_H) := [(146, H_X10_in)]
theorem CO_X10_isWire {u : Nat} : dc_CO u C_X10_isWire := dc_CO_cons H_X10_in_ok (dc_CO_nil)
def S_X10_isWire : List (Nat × List Nat) := []
def d_X10_isWire (x0 : Nat) (x1 : Int32) (m : dc_M) : Int32 :=
  (d_X10_in (Int32.toInt64 x1) (0 : Int64) (Int32.toInt64 ((m.1 x0 0) - (1 : Int32))) m)
set_option maxHeartbeats 8000000 in
theorem k_X10_isWire {u : Nat} {N : Nat} {Φ : Int32 → Option Value → dc_M → Prop} (x0 : Nat) (x1 : Int32) (m : dc_M) (kR : ∀ (v : Int32), Φ (v) (some (.int v)) m)  {lv : ab_L} (f0 : ab_lk lv 0 = some (.ref x0)) (f1 : ab_lk lv 1 = some (.int x1)) : dc_pv u N ab_M_X10_isWire 0 lv [] m (Φ (d_X10_isWire x0 x1 m)) := by
  refine dc_pv.mono (dc_ok (C := C_X10_isWire) (S := S_X10_isWire) CO_X10_isWire 400 0 [(0, .ref x0), (1, .int x1)] lv [] m (dc_sub_cons f0 (dc_sub_cons f1 (dc_sub_nil))) ?_) (Nat.le_succ N)
  unfold d_X10_isWire
  refine dg_s (pc' := 1) [.int x1] rfl (fun _ => rfl) rfl ?_
  refine dg_s (pc' := 2) [.long (Int32.toInt64 x1)] rfl (fun _ => rfl) rfl ?_
  refine dg_s (pc' := 3) [.long (0 : Int64), .long (Int32.toInt64 x1)] rfl (fun _ => rfl) rfl ?_
  refine dg_s (pc' := 4) [.ref x0, .long (0 : Int64), .long (Int32.toInt64 x1)] rfl (fun _ => rfl) rfl ?_
  refine dg_s (pc' := 7) [.int (m.1 x0 0), .long (0 : Int64), .long (Int32.toInt64 x1)] rfl (fun _ => rfl) rfl ?_
  refine dg_s (pc' := 8) [.int (1 : Int32), .int (m.1 x0 0), .long (0 : Int64), .long (Int32.toInt64 x1)] rfl (fun _ => rfl) rfl ?_
  refine dg_s (pc' := 9) [.int ((m.1 x0 0) - (1 : Int32)), .long (0 : Int64), .long (Int32.toInt64 x1)] rfl (fun _ => rfl) rfl ?_
  refine dg_s (pc' := 10) [.long (Int32.toInt64 ((m.1 x0 0) - (1 : Int32))), .long (0 : Int64), .long (Int32.toInt64 x1)] rfl (fun _ => rfl) rfl ?_
  refine dg_s (pc' := 13) [.int (d_X10_in (Int32.toInt64 x1) (0 : Int64) (Int32.toInt64 ((m.1 x0 0) - (1 : Int32))) m)] rfl (fun _ => rfl) rfl ?_
  exact dw_r (some (.inl (some (.int (d_X10_in (Int32.toInt64 x1) (0 : Int64) (Int32.toInt64 ((m.1 x0 0) - (1 : Int32))) m)), m))) rfl (fun _ => rfl) (kR _)
def H_X10_isWire : dc_H := fun As m k => match As with
  | [.ref x0, .int x1] => k (some (.int (d_X10_isWire x0 x1 m))) m
  | _ => dc_kz
theorem H_X10_isWire_ok {u : Nat} : dc_cok u 162 H_X10_isWire := fun M' hG N As m k P hz hP => by
  obtain rfl : ab_M_X10_isWire = M' := Option.some.inj hG
  unfold H_X10_isWire at hP
  split at hP
  · rename_i x0 x1
    exact dc_pv.imp (k_X10_isWire (Φ := fun (t : Int32) r m' => P (k (some (.int t)) m) → P (k r m')) x0 x1 m (fun _  h => h) rfl rfl) (fun r m' h => h hP)
  · exact absurd hP hz
def C_X10_isEvent : List (Nat × dc_H) := [(146, H_X10_in)]
theorem CO_X10_isEvent {u : Nat} : dc_CO u C_X10_isEvent := dc_CO_cons H_X10_in_ok (dc_CO_nil)
def S_X10_isEvent : List (Nat × List Nat) := []
def d_X10_isEvent (x0 : Nat) (x1 : Int32) (m : dc_M) : Int32 :=
  (d_X10_in (Int32.toInt64 x1) (0 : Int64) (Int32.toInt64 ((m.1 x0 3) - (1 : Int32))) m)
set_option maxHeartbeats 8000000 in
theorem k_X10_isEvent {u : Nat} {N : Nat} {Φ : Int32 → Option Value → dc_M → Prop} (x0 : Nat) (x1 : Int32) (m : dc_M) (kR : ∀ (v : Int32), Φ (v) (some (.int v)) m)  {lv : ab_L} (f0 : ab_lk lv 0 = some (.ref x0)) (f1 : ab_lk lv 1 = some (.int x1)) : dc_pv u N ab_M_X10_isEvent 0 lv [] m (Φ (d_X10_isEvent x0 x1 m)) := by
  refine dc_pv.mono (dc_ok (C := C_X10_isEvent) (S := S_X10_isEvent) CO_X10_isEvent 400 0 [(0, .ref x0), (1, .int x1)] lv [] m (dc_sub_cons f0 (dc_sub_cons f1 (dc_sub_nil))) ?_) (Nat.le_succ N)
  unfold d_X10_isEvent
  refine dg_s (pc' := 1) [.int x1] rfl (fun _ => rfl) rfl ?_
  refine dg_s (pc' := 2) [.long (Int32.toInt64 x1)] rfl (fun _ => rfl) rfl ?_
  refine dg_s (pc' := 3) [.long (0 : Int64), .long (Int32.toInt64 x1)] rfl (fun _ => rfl) rfl ?_
  refine dg_s (pc' := 4) [.ref x0, .long (0 : Int64), .long (Int32.toInt64 x1)] rfl (fun _ => rfl) rfl ?_
  refine dg_s (pc' := 7) [.int (m.1 x0 3), .long (0 : Int64), .long (Int32.toInt64 x1)] rfl (fun _ => rfl) rfl ?_
  refine dg_s (pc' := 8) [.int (1 : Int32), .int (m.1 x0 3), .long (0 : Int64), .long (Int32.toInt64 x1)] rfl (fun _ => rfl) rfl ?_
  refine dg_s (pc' := 9) [.int ((m.1 x0 3) - (1 : Int32)), .long (0 : Int64), .long (Int32.toInt64 x1)] rfl (fun _ => rfl) rfl ?_
  refine dg_s (pc' := 10) [.long (Int32.toInt64 ((m.1 x0 3) - (1 : Int32))), .long (0 : Int64), .long (Int32.toInt64 x1)] rfl (fun _ => rfl) rfl ?_
  refine dg_s (pc' := 13) [.int (d_X10_in (Int32.toInt64 x1) (0 : Int64) (Int32.toInt64 ((m.1 x0 3) - (1 : Int32))) m)] rfl (fun _ => rfl) rfl ?_
  exact dw_r (some (.inl (some (.int (d_X10_in (Int32.toInt64 x1) (0 : Int64) (Int32.toInt64 ((m.1 x0 3) - (1 : Int32))) m)), m))) rfl (fun _ => rfl) (kR _)
def H_X10_isEvent : dc_H := fun As m k => match As with
  | [.ref x0, .int x1] => k (some (.int (d_X10_isEvent x0 x1 m))) m
  | _ => dc_kz
theorem H_X10_isEvent_ok {u : Nat} : dc_cok u 163 H_X10_isEvent := fun M' hG N As m k P hz hP => by
  obtain rfl : ab_M_X10_isEvent = M' := Option.some.inj hG
  unfold H_X10_isEvent at hP
  split at hP
  · rename_i x0 x1
    exact dc_pv.imp (k_X10_isEvent (Φ := fun (t : Int32) r m' => P (k (some (.int t)) m) → P (k r m')) x0 x1 m (fun _  h => h) rfl rfl) (fun r m' h => h hP)
  · exact absurd hP hz
def C_X10_wire : List (Nat × dc_H) := [(162, H_X10_isWire)]
theorem CO_X10_wire {u : Nat} : dc_CO u C_X10_wire := dc_CO_cons H_X10_isWire_ok (dc_CO_nil)
def S_X10_wire : List (Nat × List Nat) := [(15, [0, 1, 2, 3, 4]), (49, [0, 1, 2, 3])]
noncomputable def d_X10_wire_b49 (x0 : Nat) (x1 : Int32) (x2 : Int32) (x3 : Int32) (m : dc_M) : Option Int32 :=
  (if ¬ (Int32.toInt x2) = 0 then (if ¬ (Int32.toInt x2) = 1 then (if ¬ (Int32.toInt x2) = 2 then some ((-1 : Int32)) else some (x3)) else some ((m.1 (x0 + 2) (Int32.toNatClampNeg x1)))) else some ((m.1 (x0 + 1) (Int32.toNatClampNeg x1))))
set_option maxHeartbeats 8000000 in
theorem k_X10_wire_b49 {u : Nat} {N : Nat} {Φ : (Option Int32) → Option Value → dc_M → Prop} (x0 : Nat) (x1 : Int32) (x2 : Int32) (x3 : Int32) (m : dc_M) (kR : ∀ (v : Int32), Φ (some (v)) (some (.int v)) m)  {lv : ab_L} (f0 : ab_lk lv 0 = some (.ref x0)) (f1 : ab_lk lv 1 = some (.int x1)) (f2 : ab_lk lv 2 = some (.int x2)) (f3 : ab_lk lv 3 = some (.int x3)) : dc_pv u N ab_M_X10_wire 49 lv [] m (Φ (d_X10_wire_b49 x0 x1 x2 x3 m)) := by
  refine dc_pv.mono (dc_ok (C := C_X10_wire) (S := S_X10_wire) CO_X10_wire 400 49 [(0, .ref x0), (1, .int x1), (2, .int x2), (3, .int x3)] lv [] m (dc_sub_cons f0 (dc_sub_cons f1 (dc_sub_cons f2 (dc_sub_cons f3 (dc_sub_nil))))) ?_) (Nat.le_succ N)
  unfold d_X10_wire_b49
  refine dg_s (pc' := 50) [.int x2] rfl (fun _ => rfl) rfl ?_
  refine dw_if (fun t => Φ t) (¬ (Int32.toInt x2) = 0) [] 62 53 rfl (fun _ => rfl) (fun c0 => ?_) (fun c0 => ?_)
  · refine dw_g rfl ?_
    refine dg_s (pc' := 63) [.int x2] rfl (fun _ => rfl) rfl ?_
    refine dg_s (pc' := 64) [.int (1 : Int32), .int x2] rfl (fun _ => rfl) rfl ?_
    refine dw_if (fun t => Φ t) (¬ (Int32.toInt x2) = 1) [] 76 67 rfl (fun _ => rfl) (fun c1 => ?_) (fun c1 => ?_)
    · refine dw_g rfl ?_
      refine dg_s (pc' := 77) [.int x2] rfl (fun _ => rfl) rfl ?_
      refine dg_s (pc' := 78) [.int (2 : Int32), .int x2] rfl (fun _ => rfl) rfl ?_
      refine dw_if (fun t => Φ t) (¬ (Int32.toInt x2) = 2) [] 85 81 rfl (fun _ => rfl) (fun c2 => ?_) (fun c2 => ?_)
      · refine dw_g rfl ?_
        refine dg_s (pc' := 86) [.int (-1 : Int32)] rfl (fun _ => rfl) rfl ?_
        exact dw_r (some (.inl (some (.int (-1 : Int32)), m))) rfl (fun _ => rfl) (kR _)
      · refine dw_g rfl ?_
        refine dg_s (pc' := 82) [.int x3] rfl (fun _ => rfl) rfl ?_
        refine dg_s (pc' := 86) [.int x3] rfl (fun _ => rfl) rfl ?_
        exact dw_r (some (.inl (some (.int x3), m))) rfl (fun _ => rfl) (kR _)
    · refine dw_g rfl ?_
      refine dg_s (pc' := 68) [.ref x0] rfl (fun _ => rfl) rfl ?_
      refine dg_s (pc' := 71) [.ref (x0 + 2)] rfl (fun _ => rfl) rfl ?_
      refine dg_s (pc' := 72) [.int x1, .ref (x0 + 2)] rfl (fun _ => rfl) rfl ?_
      refine dg_s (pc' := 73) [.int (m.1 (x0 + 2) (Int32.toNatClampNeg x1))] rfl (fun _ => rfl) rfl ?_
      refine dg_s (pc' := 86) [.int (m.1 (x0 + 2) (Int32.toNatClampNeg x1))] rfl (fun _ => rfl) rfl ?_
      exact dw_r (some (.inl (some (.int (m.1 (x0 + 2) (Int32.toNatClampNeg x1))), m))) rfl (fun _ => rfl) (kR _)
  · refine dw_g rfl ?_
    refine dg_s (pc' := 54) [.ref x0] rfl (fun _ => rfl) rfl ?_
    refine dg_s (pc' := 57) [.ref (x0 + 1)] rfl (fun _ => rfl) rfl ?_
    refine dg_s (pc' := 58) [.int x1, .ref (x0 + 1)] rfl (fun _ => rfl) rfl ?_
    refine dg_s (pc' := 59) [.int (m.1 (x0 + 1) (Int32.toNatClampNeg x1))] rfl (fun _ => rfl) rfl ?_
    refine dg_s (pc' := 86) [.int (m.1 (x0 + 1) (Int32.toNatClampNeg x1))] rfl (fun _ => rfl) rfl ?_
    exact dw_r (some (.inl (some (.int (m.1 (x0 + 1) (Int32.toNatClampNeg x1))), m))) rfl (fun _ => rfl) (kR _)
noncomputable def d_X10_wire_l15b (x0 : Nat) (x1 : Int32) (x2 : Int32) (x3 : Int32) (x4 : Int32) (m : dc_M) : Option ((Int32 × Int32) ⊕ Int32) :=
  (if (Int32.toInt (m.1 x0 3)) ≤ (Int32.toInt x4) then ((d_X10_wire_b49 x0 x1 x2 x3 m).map (fun z => Sum.inr (z))) else (if ¬ (Int32.toInt (m.1 (x0 + 3) (Int32.toNatClampNeg x4))) = (Int32.toInt x1) then some (Sum.inl ((x3 + (0 : Int32)), (x4 + (1 : Int32)))) else some (Sum.inl ((x3 + (1 : Int32)), (x4 + (1 : Int32))))))
noncomputable def d_X10_wire_l15s (x0 : Nat) (x1 : Int32) (x2 : Int32) (m : dc_M) : (Int32 × Int32) → Option ((Int32 × Int32) ⊕ Int32) := fun s => d_X10_wire_l15b x0 x1 x2 s.1 s.2 m
noncomputable def d_X10_wire_l15 (x0 : Nat) (x1 : Int32) (x2 : Int32) (x3 : Int32) (x4 : Int32) (m : dc_M) : Option Int32 := dc_lp (d_X10_wire_l15s x0 x1 x2 m) (x3, x4)
set_option maxHeartbeats 8000000 in
theorem k_X10_wire_l15 {u : Nat} {Φ : (Option Int32) → Option Value → dc_M → Prop} (x0 : Nat) (x1 : Int32) (x2 : Int32) (m : dc_M) (kR : ∀ (v : Int32), Φ (some (v)) (some (.int v)) m) : ∀ (N : Nat), ∀ (x3 : Int32) (x4 : Int32) (lv : ab_L), ab_lk lv 0 = some (.ref x0) → ab_lk lv 1 = some (.int x1) → ab_lk lv 2 = some (.int x2) → ab_lk lv 3 = some (.int x3) → ab_lk lv 4 = some (.int x4) → dc_pv u N ab_M_X10_wire 15 lv [] m (Φ (d_X10_wire_l15 x0 x1 x2 x3 x4 m)) := by
  intro N
  induction N with
  | zero => intros; exact dc_pv_zero
  | succ N ih =>
    intro x3 x4 lv f0 f1 f2 f3 f4
    refine dc_ok (C := C_X10_wire) (S := S_X10_wire) CO_X10_wire 400 15 [(0, .ref x0), (1, .int x1), (2, .int x2), (3, .int x3), (4, .int x4)] lv [] m (dc_sub_cons f0 (dc_sub_cons f1 (dc_sub_cons f2 (dc_sub_cons f3 (dc_sub_cons f4 (dc_sub_nil)))))) ?_
    unfold d_X10_wire_l15
    rw [dc_lp_eq]
    show (fun t x => dc_lf u N ab_M_X10_wire (Φ (Option.bind t (dc_bk (d_X10_wire_l15s x0 x1 x2 m)))) x) (d_X10_wire_l15b x0 x1 x2 x3 x4 m) _
    dsimp only
    unfold d_X10_wire_l15b
    refine dg_s (pc' := 17) [.int x4] rfl (fun _ => rfl) rfl ?_
    refine dg_s (pc' := 18) [.ref x0, .int x4] rfl (fun _ => rfl) rfl ?_
    refine dg_s (pc' := 21) [.int (m.1 x0 3), .int x4] rfl (fun _ => rfl) rfl ?_
    refine dw_if (fun t => Φ (Option.bind t (dc_bk (d_X10_wire_l15s x0 x1 x2 m)))) ((Int32.toInt (m.1 x0 3)) ≤ (Int32.toInt x4)) [] 49 24 rfl (fun _ => rfl) (fun c0 => ?_) (fun c0 => ?_)
    · exact dw_j rfl (fun lv1 hv => k_X10_wire_b49 (Φ := (fun t => Φ (Option.bind (t.map (fun z => Sum.inr (z))) (dc_bk (d_X10_wire_l15s x0 x1 x2 m))))) x0 x1 x2 x3 m (fun _a  => kR _a)  (hv.1 _ rfl) (hv.2.1 _ rfl) (hv.2.2.1 _ rfl) (hv.2.2.2.1 _ rfl))
    · refine dw_g rfl ?_
      refine dg_s (pc' := 25) [.int x3] rfl (fun _ => rfl) rfl ?_
      refine dg_s (pc' := 26) [.ref x0, .int x3] rfl (fun _ => rfl) rfl ?_
      refine dg_s (pc' := 29) [.ref (x0 + 3), .int x3] rfl (fun _ => rfl) rfl ?_
      refine dg_s (pc' := 31) [.int x4, .ref (x0 + 3), .int x3] rfl (fun _ => rfl) rfl ?_
      refine dg_s (pc' := 32) [.int (m.1 (x0 + 3) (Int32.toNatClampNeg x4)), .int x3] rfl (fun _ => rfl) rfl ?_
      refine dg_s (pc' := 33) [.int x1, .int (m.1 (x0 + 3) (Int32.toNatClampNeg x4)), .int x3] rfl (fun _ => rfl) rfl ?_
      refine dw_if (fun t => Φ (Option.bind t (dc_bk (d_X10_wire_l15s x0 x1 x2 m)))) (¬ (Int32.toInt (m.1 (x0 + 3) (Int32.toNatClampNeg x4))) = (Int32.toInt x1)) [.int x3] 40 36 rfl (fun _ => rfl) (fun c1 => ?_) (fun c1 => ?_)
      · refine dw_g rfl ?_
        refine dg_s (pc' := 41) [.int (0 : Int32), .int x3] rfl (fun _ => rfl) rfl ?_
        refine dg_s (pc' := 42) [.int (x3 + (0 : Int32))] rfl (fun _ => rfl) rfl ?_
        refine dg_L (pc' := 43) [(3, .int (x3 + (0 : Int32))), (0, .ref x0), (1, .int x1), (2, .int x2), (4, .int x4)] [] rfl (fun _ => rfl) rfl ?_
        refine dg_L (pc' := 46) [(4, .int (x4 + (1 : Int32))), (3, .int (x3 + (0 : Int32))), (0, .ref x0), (1, .int x1), (2, .int x2)] [] rfl (fun _ => rfl) rfl ?_
        refine dw_s (pc' := 15) [] rfl (fun _ => rfl) ?_
        exact dw_j rfl (fun lv1 hv => ih (x3 + (0 : Int32)) (x4 + (1 : Int32)) lv1 (hv.1 _ rfl) (hv.2.1 _ rfl) (hv.2.2.1 _ rfl) (hv.2.2.2.1 _ rfl) (hv.2.2.2.2.1 _ rfl))
      · refine dw_g rfl ?_
        refine dg_s (pc' := 37) [.int (1 : Int32), .int x3] rfl (fun _ => rfl) rfl ?_
        refine dg_s (pc' := 41) [.int (1 : Int32), .int x3] rfl (fun _ => rfl) rfl ?_
        refine dg_s (pc' := 42) [.int (x3 + (1 : Int32))] rfl (fun _ => rfl) rfl ?_
        refine dg_L (pc' := 43) [(3, .int (x3 + (1 : Int32))), (0, .ref x0), (1, .int x1), (2, .int x2), (4, .int x4)] [] rfl (fun _ => rfl) rfl ?_
        refine dg_L (pc' := 46) [(4, .int (x4 + (1 : Int32))), (3, .int (x3 + (1 : Int32))), (0, .ref x0), (1, .int x1), (2, .int x2)] [] rfl (fun _ => rfl) rfl ?_
        refine dw_s (pc' := 15) [] rfl (fun _ => rfl) ?_
        exact dw_j rfl (fun lv1 hv => ih (x3 + (1 : Int32)) (x4 + (1 : Int32)) lv1 (hv.1 _ rfl) (hv.2.1 _ rfl) (hv.2.2.1 _ rfl) (hv.2.2.2.1 _ rfl) (hv.2.2.2.2.1 _ rfl))
noncomputable def d_X10_wire (x0 : Nat) (x1 : Int32) (x2 : Int32) (m : dc_M) : Option Int32 :=
  (if ¬ (Int32.toInt (d_X10_isWire x0 x1 m)) = 0 then (d_X10_wire_l15 x0 x1 x2 (0 : Int32) (0 : Int32) m) else some ((-1 : Int32)))
set_option maxHeartbeats 8000000 in
theorem k_X10_wire {u : Nat} {N : Nat} {Φ : (Option Int32) → Option Value → dc_M → Prop} (x0 : Nat) (x1 : Int32) (x2 : Int32) (m : dc_M) (kR : ∀ (v : Int32), Φ (some (v)) (some (.int v)) m)  {lv : ab_L} (f0 : ab_lk lv 0 = some (.ref x0)) (f1 : ab_lk lv 1 = some (.int x1)) (f2 : ab_lk lv 2 = some (.int x2)) : dc_pv u N ab_M_X10_wire 0 lv [] m (Φ (d_X10_wire x0 x1 x2 m)) := by
  refine dc_pv.mono (dc_ok (C := C_X10_wire) (S := S_X10_wire) CO_X10_wire 400 0 [(0, .ref x0), (1, .int x1), (2, .int x2)] lv [] m (dc_sub_cons f0 (dc_sub_cons f1 (dc_sub_cons f2 (dc_sub_nil)))) ?_) (Nat.le_succ N)
  unfold d_X10_wire
  refine dg_s (pc' := 1) [.ref x0] rfl (fun _ => rfl) rfl ?_
  refine dg_s (pc' := 2) [.int x1, .ref x0] rfl (fun _ => rfl) rfl ?_
  refine dg_s (pc' := 5) [.int (d_X10_isWire x0 x1 m)] rfl (fun _ => rfl) rfl ?_
  refine dw_if (fun t => Φ t) (¬ (Int32.toInt (d_X10_isWire x0 x1 m)) = 0) [] 10 8 rfl (fun _ => rfl) (fun c0 => ?_) (fun c0 => ?_)
  · refine dw_g rfl ?_
    refine dg_s (pc' := 11) [.int (0 : Int32)] rfl (fun _ => rfl) rfl ?_
    refine dg_L (pc' := 12) [(3, .int (0 : Int32)), (0, .ref x0), (1, .int x1), (2, .int x2)] [] rfl (fun _ => rfl) rfl ?_
    refine dg_s (pc' := 13) [.int (0 : Int32)] rfl (fun _ => rfl) rfl ?_
    refine dw_L (pc' := 15) [(4, .int (0 : Int32)), (3, .int (0 : Int32)), (0, .ref x0), (1, .int x1), (2, .int x2)] [] rfl (fun _ => rfl) ?_
    exact dw_j rfl (fun lv1 hv => k_X10_wire_l15 (Φ := (fun t => Φ t)) x0 x1 x2 m (fun _a  => kR _a) N  (0 : Int32) (0 : Int32) lv1 (hv.1 _ rfl) (hv.2.1 _ rfl) (hv.2.2.1 _ rfl) (hv.2.2.2.1 _ rfl) (hv.2.2.2.2.1 _ rfl))
  · refine dw_g rfl ?_
    refine dg_s (pc' := 9) [.int (-1 : Int32)] rfl (fun _ => rfl) rfl ?_
    exact dw_r (some (.inl (some (.int (-1 : Int32)), m))) rfl (fun _ => rfl) (kR _)
noncomputable def H_X10_wire : dc_H := fun As m k => match As with
  | [.ref x0, .int x1, .int x2] => (d_X10_wire x0 x1 x2 m).bind (fun q => k (some (.int q)) m)
  | _ => dc_kz
theorem H_X10_wire_ok {u : Nat} : dc_cok u 164 H_X10_wire := fun M' hG N As m k P hz hP => by
  obtain rfl : ab_M_X10_wire = M' := Option.some.inj hG
  unfold H_X10_wire at hP
  split at hP
  · rename_i x0 x1 x2
    exact dc_pv.imp (k_X10_wire (Φ := fun (t : Option Int32) r m' => P (t.bind (fun q => k (some (.int q)) m)) → P (k r m')) x0 x1 x2 m (fun _  h => h) rfl rfl rfl) (fun r m' h => h hP)
  · exact absurd hP hz
def C_X10_event : List (Nat × dc_H) := [(163, H_X10_isEvent)]
theorem CO_X10_event {u : Nat} : dc_CO u C_X10_event := dc_CO_cons H_X10_isEvent_ok (dc_CO_nil)
def S_X10_event : List (Nat × List Nat) := []
def d_X10_event (x0 : Nat) (x1 : Int32) (x2 : Int32) (m : dc_M) : Int32 :=
  (if ¬ (Int32.toInt (d_X10_isEvent x0 x1 m)) = 0 then (if (Int32.toInt x2) = 0 then (m.1 (x0 + 3) (Int32.toNatClampNeg x1)) else (if (Int32.toInt x2) = 1 then (m.1 (x0 + 4) (Int32.toNatClampNeg x1)) else (if (Int32.toInt x2) = 2 then (m.1 (x0 + 5) (Int32.toNatClampNeg x1)) else (if (Int32.toInt x2) = 3 then (m.1 (x0 + 6) (Int32.toNatClampNeg x1)) else (if (Int32.toInt x2) = 4 then (m.1 (x0 + 7) (Int32.toNatClampNeg x1)) else (if (Int32.toInt x2) = 5 then (m.1 (x0 + 8) (Int32.toNatClampNeg x1)) else (-1 : Int32))))))) else (-1 : Int32))
set_option maxHeartbeats 8000000 in
theorem k_X10_event {u : Nat} {N : Nat} {Φ : Int32 → Option Value → dc_M → Prop} (x0 : Nat) (x1 : Int32) (x2 : Int32) (m : dc_M) (kR : ∀ (v : Int32), Φ (v) (some (.int v)) m)  {lv : ab_L} (f0 : ab_lk lv 0 = some (.ref x0)) (f1 : ab_lk lv 1 = some (.int x1)) (f2 : ab_lk lv 2 = some (.int x2)) : dc_pv u N ab_M_X10_event 0 lv [] m (Φ (d_X10_event x0 x1 x2 m)) := by
  refine dc_pv.mono (dc_ok (C := C_X10_event) (S := S_X10_event) CO_X10_event 400 0 [(0, .ref x0), (1, .int x1), (2, .int x2)] lv [] m (dc_sub_cons f0 (dc_sub_cons f1 (dc_sub_cons f2 (dc_sub_nil)))) ?_) (Nat.le_succ N)
  unfold d_X10_event
  refine dg_s (pc' := 1) [.ref x0] rfl (fun _ => rfl) rfl ?_
  refine dg_s (pc' := 2) [.int x1, .ref x0] rfl (fun _ => rfl) rfl ?_
  refine dg_s (pc' := 5) [.int (d_X10_isEvent x0 x1 m)] rfl (fun _ => rfl) rfl ?_
  refine dw_if (fun t => Φ t) (¬ (Int32.toInt (d_X10_isEvent x0 x1 m)) = 0) [] 10 8 rfl (fun _ => rfl) (fun c0 => ?_) (fun c0 => ?_)
  · refine dw_g rfl ?_
    refine dg_s (pc' := 11) [.int x2] rfl (fun _ => rfl) rfl ?_
    refine dw_sw (fun t => Φ t) ((Int32.toInt x2)) 90 [(0, 48), (1, 55), (2, 62), (3, 69), (4, 76), (5, 83)] [] rfl (fun _ => rfl) ?_
    refine dw_ts (fun t => Φ t) (fun c1 => ?_) (fun c1 => ?_)
    · refine dw_g rfl ?_
      refine dg_s (pc' := 49) [.ref x0] rfl (fun _ => rfl) rfl ?_
      refine dg_s (pc' := 52) [.ref (x0 + 3)] rfl (fun _ => rfl) rfl ?_
      refine dg_s (pc' := 53) [.int x1, .ref (x0 + 3)] rfl (fun _ => rfl) rfl ?_
      refine dg_s (pc' := 54) [.int (m.1 (x0 + 3) (Int32.toNatClampNeg x1))] rfl (fun _ => rfl) rfl ?_
      exact dw_r (some (.inl (some (.int (m.1 (x0 + 3) (Int32.toNatClampNeg x1))), m))) rfl (fun _ => rfl) (kR _)
    refine dw_ts (fun t => Φ t) (fun c2 => ?_) (fun c2 => ?_)
    · refine dw_g rfl ?_
      refine dg_s (pc' := 56) [.ref x0] rfl (fun _ => rfl) rfl ?_
      refine dg_s (pc' := 59) [.ref (x0 + 4)] rfl (fun _ => rfl) rfl ?_
      refine dg_s (pc' := 60) [.int x1, .ref (x0 + 4)] rfl (fun _ => rfl) rfl ?_
      refine dg_s (pc' := 61) [.int (m.1 (x0 + 4) (Int32.toNatClampNeg x1))] rfl (fun _ => rfl) rfl ?_
      exact dw_r (some (.inl (some (.int (m.1 (x0 + 4) (Int32.toNatClampNeg x1))), m))) rfl (fun _ => rfl) (kR _)
    refine dw_ts (fun t => Φ t) (fun c3 => ?_) (fun c3 => ?_)
    · refine dw_g rfl ?_
      refine dg_s (pc' := 63) [.ref x0] rfl (fun _ => rfl) rfl ?_
      refine dg_s (pc' := 66) [.ref (x0 + 5)] rfl (fun _ => rfl) rfl ?_
      refine dg_s (pc' := 67) [.int x1, .ref (x0 + 5)] rfl (fun _ => rfl) rfl ?_
      refine dg_s (pc' := 68) [.int (m.1 (x0 + 5) (Int32.toNatClampNeg x1))] rfl (fun _ => rfl) rfl ?_
      exact dw_r (some (.inl (some (.int (m.1 (x0 + 5) (Int32.toNatClampNeg x1))), m))) rfl (fun _ => rfl) (kR _)
    refine dw_ts (fun t => Φ t) (fun c4 => ?_) (fun c4 => ?_)
    · refine dw_g rfl ?_
      refine dg_s (pc' := 70) [.ref x0] rfl (fun _ => rfl) rfl ?_
      refine dg_s (pc' := 73) [.ref (x0 + 6)] rfl (fun _ => rfl) rfl ?_
      refine dg_s (pc' := 74) [.int x1, .ref (x0 + 6)] rfl (fun _ => rfl) rfl ?_
      refine dg_s (pc' := 75) [.int (m.1 (x0 + 6) (Int32.toNatClampNeg x1))] rfl (fun _ => rfl) rfl ?_
      exact dw_r (some (.inl (some (.int (m.1 (x0 + 6) (Int32.toNatClampNeg x1))), m))) rfl (fun _ => rfl) (kR _)
    refine dw_ts (fun t => Φ t) (fun c5 => ?_) (fun c5 => ?_)
    · refine dw_g rfl ?_
      refine dg_s (pc' := 77) [.ref x0] rfl (fun _ => rfl) rfl ?_
      refine dg_s (pc' := 80) [.ref (x0 + 7)] rfl (fun _ => rfl) rfl ?_
      refine dg_s (pc' := 81) [.int x1, .ref (x0 + 7)] rfl (fun _ => rfl) rfl ?_
      refine dg_s (pc' := 82) [.int (m.1 (x0 + 7) (Int32.toNatClampNeg x1))] rfl (fun _ => rfl) rfl ?_
      exact dw_r (some (.inl (some (.int (m.1 (x0 + 7) (Int32.toNatClampNeg x1))), m))) rfl (fun _ => rfl) (kR _)
    refine dw_ts (fun t => Φ t) (fun c6 => ?_) (fun c6 => ?_)
    · refine dw_g rfl ?_
      refine dg_s (pc' := 84) [.ref x0] rfl (fun _ => rfl) rfl ?_
      refine dg_s (pc' := 87) [.ref (x0 + 8)] rfl (fun _ => rfl) rfl ?_
      refine dg_s (pc' := 88) [.int x1, .ref (x0 + 8)] rfl (fun _ => rfl) rfl ?_
      refine dg_s (pc' := 89) [.int (m.1 (x0 + 8) (Int32.toNatClampNeg x1))] rfl (fun _ => rfl) rfl ?_
      exact dw_r (some (.inl (some (.int (m.1 (x0 + 8) (Int32.toNatClampNeg x1))), m))) rfl (fun _ => rfl) (kR _)
    refine dw_t0 ?_
    refine dw_g rfl ?_
    refine dg_s (pc' := 91) [.int (-1 : Int32)] rfl (fun _ => rfl) rfl ?_
    exact dw_r (some (.inl (some (.int (-1 : Int32)), m))) rfl (fun _ => rfl) (kR _)
  · refine dw_g rfl ?_
    refine dg_s (pc' := 9) [.int (-1 : Int32)] rfl (fun _ => rfl) rfl ?_
    exact dw_r (some (.inl (some (.int (-1 : Int32)), m))) rfl (fun _ => rfl) (kR _)
def H_X10_event : dc_H := fun As m k => match As with
  | [.ref x0, .int x1, .int x2] => k (some (.int (d_X10_event x0 x1 x2 m))) m
  | _ => dc_kz
theorem H_X10_event_ok {u : Nat} : dc_cok u 165 H_X10_event := fun M' hG N As m k P hz hP => by
  obtain rfl : ab_M_X10_event = M' := Option.some.inj hG
  unfold H_X10_event at hP
  split at hP
  · rename_i x0 x1 x2
    exact dc_pv.imp (k_X10_event (Φ := fun (t : Int32) r m' => P (k (some (.int t)) m) → P (k r m')) x0 x1 x2 m (fun _  h => h) rfl rfl rfl) (fun r m' h => h hP)
  · exact absurd hP hz
def C_X10_feeding : List (Nat × dc_H) := []
theorem CO_X10_feeding {u : Nat} : dc_CO u C_X10_feeding := dc_CO_nil
def S_X10_feeding : List (Nat × List Nat) := [(4, [0, 1, 2, 3])]
noncomputable def d_X10_feeding_l4b (x0 : Nat) (x1 : Int32) (x2 : Int32) (x3 : Int32) (m : dc_M) : Option ((Int32 × Int32) ⊕ Int32) :=
  (if (Int32.toInt (m.1 x0 3)) ≤ (Int32.toInt x3) then some (Sum.inr (x2)) else some (Sum.inl ((x2 ||| ((((m.1 (x0 + 7) (Int32.toNatClampNeg x3)) >>> (x1 &&& 31)) &&& (1 : Int32)) <<< (x3 &&& 31))), (x3 + (1 : Int32)))))
noncomputable def d_X10_feeding_l4s (x0 : Nat) (x1 : Int32) (m : dc_M) : (Int32 × Int32) → Option ((Int32 × Int32) ⊕ Int32) := fun s => d_X10_feeding_l4b x0 x1 s.1 s.2 m
noncomputable def d_X10_feeding_l4 (x0 : Nat) (x1 : Int32) (x2 : Int32) (x3 : Int32) (m : dc_M) : Option Int32 := dc_lp (d_X10_feeding_l4s x0 x1 m) (x2, x3)
set_option maxHeartbeats 8000000 in
theorem k_X10_feeding_l4 {u : Nat} {Φ : (Option Int32) → Option Value → dc_M → Prop} (x0 : Nat) (x1 : Int32) (m : dc_M) (kR : ∀ (v : Int32), Φ (some (v)) (some (.int v)) m) : ∀ (N : Nat), ∀ (x2 : Int32) (x3 : Int32) (lv : ab_L), ab_lk lv 0 = some (.ref x0) → ab_lk lv 1 = some (.int x1) → ab_lk lv 2 = some (.int x2) → ab_lk lv 3 = some (.int x3) → dc_pv u N ab_M_X10_feeding 4 lv [] m (Φ (d_X10_feeding_l4 x0 x1 x2 x3 m)) := by
  intro N
  induction N with
  | zero => intros; exact dc_pv_zero
  | succ N ih =>
    intro x2 x3 lv f0 f1 f2 f3
    refine dc_ok (C := C_X10_feeding) (S := S_X10_feeding) CO_X10_feeding 400 4 [(0, .ref x0), (1, .int x1), (2, .int x2), (3, .int x3)] lv [] m (dc_sub_cons f0 (dc_sub_cons f1 (dc_sub_cons f2 (dc_sub_cons f3 (dc_sub_nil))))) ?_
    unfold d_X10_feeding_l4
    rw [dc_lp_eq]
    show (fun t x => dc_lf u N ab_M_X10_feeding (Φ (Option.bind t (dc_bk (d_X10_feeding_l4s x0 x1 m)))) x) (d_X10_feeding_l4b x0 x1 x2 x3 m) _
    dsimp only
    unfold d_X10_feeding_l4b
    refine dg_s (pc' := 5) [.int x3] rfl (fun _ => rfl) rfl ?_
    refine dg_s (pc' := 6) [.ref x0, .int x3] rfl (fun _ => rfl) rfl ?_
    refine dg_s (pc' := 9) [.int (m.1 x0 3), .int x3] rfl (fun _ => rfl) rfl ?_
    refine dw_if (fun t => Φ (Option.bind t (dc_bk (d_X10_feeding_l4s x0 x1 m)))) ((Int32.toInt (m.1 x0 3)) ≤ (Int32.toInt x3)) [] 33 12 rfl (fun _ => rfl) (fun c0 => ?_) (fun c0 => ?_)
    · refine dw_g rfl ?_
      refine dg_s (pc' := 34) [.int x2] rfl (fun _ => rfl) rfl ?_
      exact dw_r (some (.inl (some (.int x2), m))) rfl (fun _ => rfl) (kR _)
    · refine dw_g rfl ?_
      refine dg_s (pc' := 13) [.int x2] rfl (fun _ => rfl) rfl ?_
      refine dg_s (pc' := 14) [.ref x0, .int x2] rfl (fun _ => rfl) rfl ?_
      refine dg_s (pc' := 17) [.ref (x0 + 7), .int x2] rfl (fun _ => rfl) rfl ?_
      refine dg_s (pc' := 18) [.int x3, .ref (x0 + 7), .int x2] rfl (fun _ => rfl) rfl ?_
      refine dg_s (pc' := 19) [.int (m.1 (x0 + 7) (Int32.toNatClampNeg x3)), .int x2] rfl (fun _ => rfl) rfl ?_
      refine dg_s (pc' := 20) [.int x1, .int (m.1 (x0 + 7) (Int32.toNatClampNeg x3)), .int x2] rfl (fun _ => rfl) rfl ?_
      refine dg_s (pc' := 21) [.int ((m.1 (x0 + 7) (Int32.toNatClampNeg x3)) >>> (x1 &&& 31)), .int x2] rfl (fun _ => rfl) rfl ?_
      refine dg_s (pc' := 22) [.int (1 : Int32), .int ((m.1 (x0 + 7) (Int32.toNatClampNeg x3)) >>> (x1 &&& 31)), .int x2] rfl (fun _ => rfl) rfl ?_
      refine dg_s (pc' := 23) [.int (((m.1 (x0 + 7) (Int32.toNatClampNeg x3)) >>> (x1 &&& 31)) &&& (1 : Int32)), .int x2] rfl (fun _ => rfl) rfl ?_
      refine dg_s (pc' := 24) [.int x3, .int (((m.1 (x0 + 7) (Int32.toNatClampNeg x3)) >>> (x1 &&& 31)) &&& (1 : Int32)), .int x2] rfl (fun _ => rfl) rfl ?_
      refine dg_s (pc' := 25) [.int ((((m.1 (x0 + 7) (Int32.toNatClampNeg x3)) >>> (x1 &&& 31)) &&& (1 : Int32)) <<< (x3 &&& 31)), .int x2] rfl (fun _ => rfl) rfl ?_
      refine dg_s (pc' := 26) [.int (x2 ||| ((((m.1 (x0 + 7) (Int32.toNatClampNeg x3)) >>> (x1 &&& 31)) &&& (1 : Int32)) <<< (x3 &&& 31)))] rfl (fun _ => rfl) rfl ?_
      refine dg_L (pc' := 27) [(2, .int (x2 ||| ((((m.1 (x0 + 7) (Int32.toNatClampNeg x3)) >>> (x1 &&& 31)) &&& (1 : Int32)) <<< (x3 &&& 31)))), (0, .ref x0), (1, .int x1), (3, .int x3)] [] rfl (fun _ => rfl) rfl ?_
      refine dg_L (pc' := 30) [(3, .int (x3 + (1 : Int32))), (2, .int (x2 ||| ((((m.1 (x0 + 7) (Int32.toNatClampNeg x3)) >>> (x1 &&& 31)) &&& (1 : Int32)) <<< (x3 &&& 31)))), (0, .ref x0), (1, .int x1)] [] rfl (fun _ => rfl) rfl ?_
      refine dw_s (pc' := 4) [] rfl (fun _ => rfl) ?_
      exact dw_j rfl (fun lv1 hv => ih (x2 ||| ((((m.1 (x0 + 7) (Int32.toNatClampNeg x3)) >>> (x1 &&& 31)) &&& (1 : Int32)) <<< (x3 &&& 31))) (x3 + (1 : Int32)) lv1 (hv.1 _ rfl) (hv.2.1 _ rfl) (hv.2.2.1 _ rfl) (hv.2.2.2.1 _ rfl))
noncomputable def d_X10_feeding (x0 : Nat) (x1 : Int32) (m : dc_M) : Option Int32 :=
  (d_X10_feeding_l4 x0 x1 (0 : Int32) (0 : Int32) m)
set_option maxHeartbeats 8000000 in
theorem k_X10_feeding {u : Nat} {N : Nat} {Φ : (Option Int32) → Option Value → dc_M → Prop} (x0 : Nat) (x1 : Int32) (m : dc_M) (kR : ∀ (v : Int32), Φ (some (v)) (some (.int v)) m)  {lv : ab_L} (f0 : ab_lk lv 0 = some (.ref x0)) (f1 : ab_lk lv 1 = some (.int x1)) : dc_pv u N ab_M_X10_feeding 0 lv [] m (Φ (d_X10_feeding x0 x1 m)) := by
  refine dc_pv.mono (dc_ok (C := C_X10_feeding) (S := S_X10_feeding) CO_X10_feeding 400 0 [(0, .ref x0), (1, .int x1)] lv [] m (dc_sub_cons f0 (dc_sub_cons f1 (dc_sub_nil))) ?_) (Nat.le_succ N)
  unfold d_X10_feeding
  refine dg_s (pc' := 1) [.int (0 : Int32)] rfl (fun _ => rfl) rfl ?_
  refine dg_L (pc' := 2) [(2, .int (0 : Int32)), (0, .ref x0), (1, .int x1)] [] rfl (fun _ => rfl) rfl ?_
  refine dg_s (pc' := 3) [.int (0 : Int32)] rfl (fun _ => rfl) rfl ?_
  refine dw_L (pc' := 4) [(3, .int (0 : Int32)), (2, .int (0 : Int32)), (0, .ref x0), (1, .int x1)] [] rfl (fun _ => rfl) ?_
  exact dw_j rfl (fun lv1 hv => k_X10_feeding_l4 (Φ := (fun t => Φ t)) x0 x1 m (fun _a  => kR _a) N  (0 : Int32) (0 : Int32) lv1 (hv.1 _ rfl) (hv.2.1 _ rfl) (hv.2.2.1 _ rfl) (hv.2.2.2.1 _ rfl))
noncomputable def H_X10_feeding : dc_H := fun As m k => match As with
  | [.ref x0, .int x1] => (d_X10_feeding x0 x1 m).bind (fun q => k (some (.int q)) m)
  | _ => dc_kz
theorem H_X10_feeding_ok {u : Nat} : dc_cok u 166 H_X10_feeding := fun M' hG N As m k P hz hP => by
  obtain rfl : ab_M_X10_feeding = M' := Option.some.inj hG
  unfold H_X10_feeding at hP
  split at hP
  · rename_i x0 x1
    exact dc_pv.imp (k_X10_feeding (Φ := fun (t : Option Int32) r m' => P (t.bind (fun q => k (some (.int q)) m)) → P (k r m')) x0 x1 m (fun _  h => h) rfl rfl) (fun r m' h => h hP)
  · exact absurd hP hz
def C_X10_taking : List (Nat × dc_H) := []
theorem CO_X10_taking {u : Nat} : dc_CO u C_X10_taking := dc_CO_nil
def S_X10_taking : List (Nat × List Nat) := [(4, [0, 1, 2, 3])]
noncomputable def d_X10_taking_l4b (x0 : Nat) (x1 : Int32) (x2 : Int32) (x3 : Int32) (m : dc_M) : Option ((Int32 × Int32) ⊕ Int32) :=
  (if (Int32.toInt (m.1 x0 3)) ≤ (Int32.toInt x3) then some (Sum.inr (x2)) else some (Sum.inl ((x2 ||| ((((m.1 (x0 + 6) (Int32.toNatClampNeg x3)) >>> (x1 &&& 31)) &&& (1 : Int32)) <<< (x3 &&& 31))), (x3 + (1 : Int32)))))
noncomputable def d_X10_taking_l4s (x0 : Nat) (x1 : Int32) (m : dc_M) : (Int32 × Int32) → Option ((Int32 × Int32) ⊕ Int32) := fun s => d_X10_taking_l4b x0 x1 s.1 s.2 m
noncomputable def d_X10_taking_l4 (x0 : Nat) (x1 : Int32) (x2 : Int32) (x3 : Int32) (m : dc_M) : Option Int32 := dc_lp (d_X10_taking_l4s x0 x1 m) (x2, x3)
set_option maxHeartbeats 8000000 in
theorem k_X10_taking_l4 {u : Nat} {Φ : (Option Int32) → Option Value → dc_M → Prop} (x0 : Nat) (x1 : Int32) (m : dc_M) (kR : ∀ (v : Int32), Φ (some (v)) (some (.int v)) m) : ∀ (N : Nat), ∀ (x2 : Int32) (x3 : Int32) (lv : ab_L), ab_lk lv 0 = some (.ref x0) → ab_lk lv 1 = some (.int x1) → ab_lk lv 2 = some (.int x2) → ab_lk lv 3 = some (.int x3) → dc_pv u N ab_M_X10_taking 4 lv [] m (Φ (d_X10_taking_l4 x0 x1 x2 x3 m)) := by
  intro N
  induction N with
  | zero => intros; exact dc_pv_zero
  | succ N ih =>
    intro x2 x3 lv f0 f1 f2 f3
    refine dc_ok (C := C_X10_taking) (S := S_X10_taking) CO_X10_taking 400 4 [(0, .ref x0), (1, .int x1), (2, .int x2), (3, .int x3)] lv [] m (dc_sub_cons f0 (dc_sub_cons f1 (dc_sub_cons f2 (dc_sub_cons f3 (dc_sub_nil))))) ?_
    unfold d_X10_taking_l4
    rw [dc_lp_eq]
    show (fun t x => dc_lf u N ab_M_X10_taking (Φ (Option.bind t (dc_bk (d_X10_taking_l4s x0 x1 m)))) x) (d_X10_taking_l4b x0 x1 x2 x3 m) _
    dsimp only
    unfold d_X10_taking_l4b
    refine dg_s (pc' := 5) [.int x3] rfl (fun _ => rfl) rfl ?_
    refine dg_s (pc' := 6) [.ref x0, .int x3] rfl (fun _ => rfl) rfl ?_
    refine dg_s (pc' := 9) [.int (m.1 x0 3), .int x3] rfl (fun _ => rfl) rfl ?_
    refine dw_if (fun t => Φ (Option.bind t (dc_bk (d_X10_taking_l4s x0 x1 m)))) ((Int32.toInt (m.1 x0 3)) ≤ (Int32.toInt x3)) [] 33 12 rfl (fun _ => rfl) (fun c0 => ?_) (fun c0 => ?_)
    · refine dw_g rfl ?_
      refine dg_s (pc' := 34) [.int x2] rfl (fun _ => rfl) rfl ?_
      exact dw_r (some (.inl (some (.int x2), m))) rfl (fun _ => rfl) (kR _)
    · refine dw_g rfl ?_
      refine dg_s (pc' := 13) [.int x2] rfl (fun _ => rfl) rfl ?_
      refine dg_s (pc' := 14) [.ref x0, .int x2] rfl (fun _ => rfl) rfl ?_
      refine dg_s (pc' := 17) [.ref (x0 + 6), .int x2] rfl (fun _ => rfl) rfl ?_
      refine dg_s (pc' := 18) [.int x3, .ref (x0 + 6), .int x2] rfl (fun _ => rfl) rfl ?_
      refine dg_s (pc' := 19) [.int (m.1 (x0 + 6) (Int32.toNatClampNeg x3)), .int x2] rfl (fun _ => rfl) rfl ?_
      refine dg_s (pc' := 20) [.int x1, .int (m.1 (x0 + 6) (Int32.toNatClampNeg x3)), .int x2] rfl (fun _ => rfl) rfl ?_
      refine dg_s (pc' := 21) [.int ((m.1 (x0 + 6) (Int32.toNatClampNeg x3)) >>> (x1 &&& 31)), .int x2] rfl (fun _ => rfl) rfl ?_
      refine dg_s (pc' := 22) [.int (1 : Int32), .int ((m.1 (x0 + 6) (Int32.toNatClampNeg x3)) >>> (x1 &&& 31)), .int x2] rfl (fun _ => rfl) rfl ?_
      refine dg_s (pc' := 23) [.int (((m.1 (x0 + 6) (Int32.toNatClampNeg x3)) >>> (x1 &&& 31)) &&& (1 : Int32)), .int x2] rfl (fun _ => rfl) rfl ?_
      refine dg_s (pc' := 24) [.int x3, .int (((m.1 (x0 + 6) (Int32.toNatClampNeg x3)) >>> (x1 &&& 31)) &&& (1 : Int32)), .int x2] rfl (fun _ => rfl) rfl ?_
      refine dg_s (pc' := 25) [.int ((((m.1 (x0 + 6) (Int32.toNatClampNeg x3)) >>> (x1 &&& 31)) &&& (1 : Int32)) <<< (x3 &&& 31)), .int x2] rfl (fun _ => rfl) rfl ?_
      refine dg_s (pc' := 26) [.int (x2 ||| ((((m.1 (x0 + 6) (Int32.toNatClampNeg x3)) >>> (x1 &&& 31)) &&& (1 : Int32)) <<< (x3 &&& 31)))] rfl (fun _ => rfl) rfl ?_
      refine dg_L (pc' := 27) [(2, .int (x2 ||| ((((m.1 (x0 + 6) (Int32.toNatClampNeg x3)) >>> (x1 &&& 31)) &&& (1 : Int32)) <<< (x3 &&& 31)))), (0, .ref x0), (1, .int x1), (3, .int x3)] [] rfl (fun _ => rfl) rfl ?_
      refine dg_L (pc' := 30) [(3, .int (x3 + (1 : Int32))), (2, .int (x2 ||| ((((m.1 (x0 + 6) (Int32.toNatClampNeg x3)) >>> (x1 &&& 31)) &&& (1 : Int32)) <<< (x3 &&& 31)))), (0, .ref x0), (1, .int x1)] [] rfl (fun _ => rfl) rfl ?_
      refine dw_s (pc' := 4) [] rfl (fun _ => rfl) ?_
      exact dw_j rfl (fun lv1 hv => ih (x2 ||| ((((m.1 (x0 + 6) (Int32.toNatClampNeg x3)) >>> (x1 &&& 31)) &&& (1 : Int32)) <<< (x3 &&& 31))) (x3 + (1 : Int32)) lv1 (hv.1 _ rfl) (hv.2.1 _ rfl) (hv.2.2.1 _ rfl) (hv.2.2.2.1 _ rfl))
noncomputable def d_X10_taking (x0 : Nat) (x1 : Int32) (m : dc_M) : Option Int32 :=
  (d_X10_taking_l4 x0 x1 (0 : Int32) (0 : Int32) m)
set_option maxHeartbeats 8000000 in
theorem k_X10_taking {u : Nat} {N : Nat} {Φ : (Option Int32) → Option Value → dc_M → Prop} (x0 : Nat) (x1 : Int32) (m : dc_M) (kR : ∀ (v : Int32), Φ (some (v)) (some (.int v)) m)  {lv : ab_L} (f0 : ab_lk lv 0 = some (.ref x0)) (f1 : ab_lk lv 1 = some (.int x1)) : dc_pv u N ab_M_X10_taking 0 lv [] m (Φ (d_X10_taking x0 x1 m)) := by
  refine dc_pv.mono (dc_ok (C := C_X10_taking) (S := S_X10_taking) CO_X10_taking 400 0 [(0, .ref x0), (1, .int x1)] lv [] m (dc_sub_cons f0 (dc_sub_cons f1 (dc_sub_nil))) ?_) (Nat.le_succ N)
  unfold d_X10_taking
  refine dg_s (pc' := 1) [.int (0 : Int32)] rfl (fun _ => rfl) rfl ?_
  refine dg_L (pc' := 2) [(2, .int (0 : Int32)), (0, .ref x0), (1, .int x1)] [] rfl (fun _ => rfl) rfl ?_
  refine dg_s (pc' := 3) [.int (0 : Int32)] rfl (fun _ => rfl) rfl ?_
  refine dw_L (pc' := 4) [(3, .int (0 : Int32)), (2, .int (0 : Int32)), (0, .ref x0), (1, .int x1)] [] rfl (fun _ => rfl) ?_
  exact dw_j rfl (fun lv1 hv => k_X10_taking_l4 (Φ := (fun t => Φ t)) x0 x1 m (fun _a  => kR _a) N  (0 : Int32) (0 : Int32) lv1 (hv.1 _ rfl) (hv.2.1 _ rfl) (hv.2.2.1 _ rfl) (hv.2.2.2.1 _ rfl))
noncomputable def H_X10_taking : dc_H := fun As m k => match As with
  | [.ref x0, .int x1] => (d_X10_taking x0 x1 m).bind (fun q => k (some (.int q)) m)
  | _ => dc_kz
theorem H_X10_taking_ok {u : Nat} : dc_cok u 167 H_X10_taking := fun M' hG N As m k P hz hP => by
  obtain rfl : ab_M_X10_taking = M' := Option.some.inj hG
  unfold H_X10_taking at hP
  split at hP
  · rename_i x0 x1
    exact dc_pv.imp (k_X10_taking (Φ := fun (t : Option Int32) r m' => P (t.bind (fun q => k (some (.int q)) m)) → P (k r m')) x0 x1 m (fun _  h => h) rfl rfl) (fun r m' h => h hP)
  · exact absurd hP hz
noncomputable def C_X10_place : List (Nat × dc_H) := [(166, H_X10_feeding), (146, H_X10_in), (167, H_X10_taking)]
theorem CO_X10_place {u : Nat} : dc_CO u C_X10_place := dc_CO_cons H_X10_feeding_ok (dc_CO_cons H_X10_in_ok (dc_CO_cons H_X10_taking_ok (dc_CO_nil)))
def S_X10_place : List (Nat × List Nat) := []
noncomputable def d_X10_place (x0 : Nat) (x1 : Int32) (x2 : Int32) (m : dc_M) : Option Int32 :=
  (if ¬ (Int32.toInt (d_X10_in (Int32.toInt64 x1) (0 : Int64) (Int32.toInt64 ((m.1 x0 10) - (1 : Int32))) m)) = 0 then (if ¬ (Int32.toInt x2) = 0 then (if ¬ (Int32.toInt x2) = 1 then (if ¬ (Int32.toInt x2) = 2 then some ((-1 : Int32)) else some ((((m.1 x0 11) >>> (x1 &&& 31)) &&& (1 : Int32)))) else ((d_X10_taking x0 x1 m).bind (fun q1 => some (q1)))) else ((d_X10_feeding x0 x1 m).bind (fun q2 => some (q2)))) else some ((-1 : Int32)))
set_option maxHeartbeats 8000000 in
theorem k_X10_place {u : Nat} {N : Nat} {Φ : (Option Int32) → Option Value → dc_M → Prop} (x0 : Nat) (x1 : Int32) (x2 : Int32) (m : dc_M) (kR : ∀ (v : Int32), Φ (some (v)) (some (.int v)) m)  {lv : ab_L} (f0 : ab_lk lv 0 = some (.ref x0)) (f1 : ab_lk lv 1 = some (.int x1)) (f2 : ab_lk lv 2 = some (.int x2)) : dc_pv u N ab_M_X10_place 0 lv [] m (Φ (d_X10_place x0 x1 x2 m)) := by
  refine dc_pv.mono (dc_ok (C := C_X10_place) (S := S_X10_place) CO_X10_place 400 0 [(0, .ref x0), (1, .int x1), (2, .int x2)] lv [] m (dc_sub_cons f0 (dc_sub_cons f1 (dc_sub_cons f2 (dc_sub_nil)))) ?_) (Nat.le_succ N)
  unfold d_X10_place
  refine dg_s (pc' := 1) [.int x1] rfl (fun _ => rfl) rfl ?_
  refine dg_s (pc' := 2) [.long (Int32.toInt64 x1)] rfl (fun _ => rfl) rfl ?_
  refine dg_s (pc' := 3) [.long (0 : Int64), .long (Int32.toInt64 x1)] rfl (fun _ => rfl) rfl ?_
  refine dg_s (pc' := 4) [.ref x0, .long (0 : Int64), .long (Int32.toInt64 x1)] rfl (fun _ => rfl) rfl ?_
  refine dg_s (pc' := 7) [.int (m.1 x0 10), .long (0 : Int64), .long (Int32.toInt64 x1)] rfl (fun _ => rfl) rfl ?_
  refine dg_s (pc' := 8) [.int (1 : Int32), .int (m.1 x0 10), .long (0 : Int64), .long (Int32.toInt64 x1)] rfl (fun _ => rfl) rfl ?_
  refine dg_s (pc' := 9) [.int ((m.1 x0 10) - (1 : Int32)), .long (0 : Int64), .long (Int32.toInt64 x1)] rfl (fun _ => rfl) rfl ?_
  refine dg_s (pc' := 10) [.long (Int32.toInt64 ((m.1 x0 10) - (1 : Int32))), .long (0 : Int64), .long (Int32.toInt64 x1)] rfl (fun _ => rfl) rfl ?_
  refine dg_s (pc' := 13) [.int (d_X10_in (Int32.toInt64 x1) (0 : Int64) (Int32.toInt64 ((m.1 x0 10) - (1 : Int32))) m)] rfl (fun _ => rfl) rfl ?_
  refine dw_if (fun t => Φ t) (¬ (Int32.toInt (d_X10_in (Int32.toInt64 x1) (0 : Int64) (Int32.toInt64 ((m.1 x0 10) - (1 : Int32))) m)) = 0) [] 18 16 rfl (fun _ => rfl) (fun c0 => ?_) (fun c0 => ?_)
  · refine dw_g rfl ?_
    refine dg_s (pc' := 19) [.int x2] rfl (fun _ => rfl) rfl ?_
    refine dw_if (fun t => Φ t) (¬ (Int32.toInt x2) = 0) [] 30 22 rfl (fun _ => rfl) (fun c1 => ?_) (fun c1 => ?_)
    · refine dw_g rfl ?_
      refine dg_s (pc' := 31) [.int x2] rfl (fun _ => rfl) rfl ?_
      refine dg_s (pc' := 32) [.int (1 : Int32), .int x2] rfl (fun _ => rfl) rfl ?_
      refine dw_if (fun t => Φ t) (¬ (Int32.toInt x2) = 1) [] 43 35 rfl (fun _ => rfl) (fun c2 => ?_) (fun c2 => ?_)
      · refine dw_g rfl ?_
        refine dg_s (pc' := 44) [.int x2] rfl (fun _ => rfl) rfl ?_
        refine dg_s (pc' := 45) [.int (2 : Int32), .int x2] rfl (fun _ => rfl) rfl ?_
        refine dw_if (fun t => Φ t) (¬ (Int32.toInt x2) = 2) [] 59 48 rfl (fun _ => rfl) (fun c3 => ?_) (fun c3 => ?_)
        · refine dw_g rfl ?_
          refine dg_s (pc' := 60) [.int (-1 : Int32)] rfl (fun _ => rfl) rfl ?_
          exact dw_r (some (.inl (some (.int (-1 : Int32)), m))) rfl (fun _ => rfl) (kR _)
        · refine dw_g rfl ?_
          refine dg_s (pc' := 49) [.ref x0] rfl (fun _ => rfl) rfl ?_
          refine dg_s (pc' := 52) [.int (m.1 x0 11)] rfl (fun _ => rfl) rfl ?_
          refine dg_s (pc' := 53) [.int x1, .int (m.1 x0 11)] rfl (fun _ => rfl) rfl ?_
          refine dg_s (pc' := 54) [.int ((m.1 x0 11) >>> (x1 &&& 31))] rfl (fun _ => rfl) rfl ?_
          refine dg_s (pc' := 55) [.int (1 : Int32), .int ((m.1 x0 11) >>> (x1 &&& 31))] rfl (fun _ => rfl) rfl ?_
          refine dg_s (pc' := 56) [.int (((m.1 x0 11) >>> (x1 &&& 31)) &&& (1 : Int32))] rfl (fun _ => rfl) rfl ?_
          refine dg_s (pc' := 60) [.int (((m.1 x0 11) >>> (x1 &&& 31)) &&& (1 : Int32))] rfl (fun _ => rfl) rfl ?_
          exact dw_r (some (.inl (some (.int (((m.1 x0 11) >>> (x1 &&& 31)) &&& (1 : Int32))), m))) rfl (fun _ => rfl) (kR _)
      · refine dw_g rfl ?_
        refine dg_s (pc' := 36) [.ref x0] rfl (fun _ => rfl) rfl ?_
        refine dg_s (pc' := 37) [.int x1, .ref x0] rfl (fun _ => rfl) rfl ?_
        refine dw_b (fun t => Φ t) (pc' := 40) (fun q1 => [.int q1]) (fun q1 => m) rfl (fun _ => rfl) (fun q1 => ?_)
        refine dw_g rfl ?_
        refine dg_s (pc' := 60) [.int q1] rfl (fun _ => rfl) rfl ?_
        exact dw_r (some (.inl (some (.int q1), m))) rfl (fun _ => rfl) (kR _)
    · refine dw_g rfl ?_
      refine dg_s (pc' := 23) [.ref x0] rfl (fun _ => rfl) rfl ?_
      refine dg_s (pc' := 24) [.int x1, .ref x0] rfl (fun _ => rfl) rfl ?_
      refine dw_b (fun t => Φ t) (pc' := 27) (fun q2 => [.int q2]) (fun q2 => m) rfl (fun _ => rfl) (fun q2 => ?_)
      refine dw_g rfl ?_
      refine dg_s (pc' := 60) [.int q2] rfl (fun _ => rfl) rfl ?_
      exact dw_r (some (.inl (some (.int q2), m))) rfl (fun _ => rfl) (kR _)
  · refine dw_g rfl ?_
    refine dg_s (pc' := 17) [.int (-1 : Int32)] rfl (fun _ => rfl) rfl ?_
    exact dw_r (some (.inl (some (.int (-1 : Int32)), m))) rfl (fun _ => rfl) (kR _)
noncomputable def H_X10_place : dc_H := fun As m k => match As with
  | [.ref x0, .int x1, .int x2] => (d_X10_place x0 x1 x2 m).bind (fun q => k (some (.int q)) m)
  | _ => dc_kz
theorem H_X10_place_ok {u : Nat} : dc_cok u 168 H_X10_place := fun M' hG N As m k P hz hP => by
  obtain rfl : ab_M_X10_place = M' := Option.some.inj hG
  unfold H_X10_place at hP
  split at hP
  · rename_i x0 x1 x2
    exact dc_pv.imp (k_X10_place (Φ := fun (t : Option Int32) r m' => P (t.bind (fun q => k (some (.int q)) m)) → P (k r m')) x0 x1 x2 m (fun _  h => h) rfl rfl rfl) (fun r m' h => h hP)
  · exact absurd hP hz
def C_X10_isReady : List (Nat × dc_H) := []
theorem CO_X10_isReady {u : Nat} : dc_CO u C_X10_isReady := dc_CO_nil
def S_X10_isReady : List (Nat × List Nat) := []
def d_X10_isReady (x0 : Nat) (x1 : Int32) (x2 : Int32) (m : dc_M) : Int32 :=
  (if (Int32.toInt (m.1 (x0 + 6) (Int32.toNatClampNeg x1))) = 0 then (0 : Int32) else (if ¬ (Int32.toInt (x2 &&& (m.1 (x0 + 6) (Int32.toNatClampNeg x1)))) = (Int32.toInt (m.1 (x0 + 6) (Int32.toNatClampNeg x1))) then (0 : Int32) else (1 : Int32)))
set_option maxHeartbeats 8000000 in
theorem k_X10_isReady {u : Nat} {N : Nat} {Φ : Int32 → Option Value → dc_M → Prop} (x0 : Nat) (x1 : Int32) (x2 : Int32) (m : dc_M) (kR : ∀ (v : Int32), Φ (v) (some (.int v)) m)  {lv : ab_L} (f0 : ab_lk lv 0 = some (.ref x0)) (f1 : ab_lk lv 1 = some (.int x1)) (f2 : ab_lk lv 2 = some (.int x2)) : dc_pv u N ab_M_X10_isReady 0 lv [] m (Φ (d_X10_isReady x0 x1 x2 m)) := by
  refine dc_pv.mono (dc_ok (C := C_X10_isReady) (S := S_X10_isReady) CO_X10_isReady 400 0 [(0, .ref x0), (1, .int x1), (2, .int x2)] lv [] m (dc_sub_cons f0 (dc_sub_cons f1 (dc_sub_cons f2 (dc_sub_nil)))) ?_) (Nat.le_succ N)
  unfold d_X10_isReady
  refine dg_s (pc' := 1) [.ref x0] rfl (fun _ => rfl) rfl ?_
  refine dg_s (pc' := 4) [.ref (x0 + 6)] rfl (fun _ => rfl) rfl ?_
  refine dg_s (pc' := 5) [.int x1, .ref (x0 + 6)] rfl (fun _ => rfl) rfl ?_
  refine dg_s (pc' := 6) [.int (m.1 (x0 + 6) (Int32.toNatClampNeg x1))] rfl (fun _ => rfl) rfl ?_
  refine dw_if (fun t => Φ t) ((Int32.toInt (m.1 (x0 + 6) (Int32.toNatClampNeg x1))) = 0) [] 30 9 rfl (fun _ => rfl) (fun c0 => ?_) (fun c0 => ?_)
  · refine dw_g rfl ?_
    refine dg_s (pc' := 31) [.int (0 : Int32)] rfl (fun _ => rfl) rfl ?_
    exact dw_r (some (.inl (some (.int (0 : Int32)), m))) rfl (fun _ => rfl) (kR _)
  · refine dw_g rfl ?_
    refine dg_s (pc' := 10) [.int x2] rfl (fun _ => rfl) rfl ?_
    refine dg_s (pc' := 11) [.ref x0, .int x2] rfl (fun _ => rfl) rfl ?_
    refine dg_s (pc' := 14) [.ref (x0 + 6), .int x2] rfl (fun _ => rfl) rfl ?_
    refine dg_s (pc' := 15) [.int x1, .ref (x0 + 6), .int x2] rfl (fun _ => rfl) rfl ?_
    refine dg_s (pc' := 16) [.int (m.1 (x0 + 6) (Int32.toNatClampNeg x1)), .int x2] rfl (fun _ => rfl) rfl ?_
    refine dg_s (pc' := 17) [.int (x2 &&& (m.1 (x0 + 6) (Int32.toNatClampNeg x1)))] rfl (fun _ => rfl) rfl ?_
    refine dg_s (pc' := 18) [.ref x0, .int (x2 &&& (m.1 (x0 + 6) (Int32.toNatClampNeg x1)))] rfl (fun _ => rfl) rfl ?_
    refine dg_s (pc' := 21) [.ref (x0 + 6), .int (x2 &&& (m.1 (x0 + 6) (Int32.toNatClampNeg x1)))] rfl (fun _ => rfl) rfl ?_
    refine dg_s (pc' := 22) [.int x1, .ref (x0 + 6), .int (x2 &&& (m.1 (x0 + 6) (Int32.toNatClampNeg x1)))] rfl (fun _ => rfl) rfl ?_
    refine dg_s (pc' := 23) [.int (m.1 (x0 + 6) (Int32.toNatClampNeg x1)), .int (x2 &&& (m.1 (x0 + 6) (Int32.toNatClampNeg x1)))] rfl (fun _ => rfl) rfl ?_
    refine dw_if (fun t => Φ t) (¬ (Int32.toInt (x2 &&& (m.1 (x0 + 6) (Int32.toNatClampNeg x1)))) = (Int32.toInt (m.1 (x0 + 6) (Int32.toNatClampNeg x1)))) [] 30 26 rfl (fun _ => rfl) (fun c1 => ?_) (fun c1 => ?_)
    · refine dw_g rfl ?_
      refine dg_s (pc' := 31) [.int (0 : Int32)] rfl (fun _ => rfl) rfl ?_
      exact dw_r (some (.inl (some (.int (0 : Int32)), m))) rfl (fun _ => rfl) (kR _)
    · refine dw_g rfl ?_
      refine dg_s (pc' := 27) [.int (1 : Int32)] rfl (fun _ => rfl) rfl ?_
      refine dg_s (pc' := 31) [.int (1 : Int32)] rfl (fun _ => rfl) rfl ?_
      exact dw_r (some (.inl (some (.int (1 : Int32)), m))) rfl (fun _ => rfl) (kR _)
def H_X10_isReady : dc_H := fun As m k => match As with
  | [.ref x0, .int x1, .int x2] => k (some (.int (d_X10_isReady x0 x1 x2 m))) m
  | _ => dc_kz
theorem H_X10_isReady_ok {u : Nat} : dc_cok u 169 H_X10_isReady := fun M' hG N As m k P hz hP => by
  obtain rfl : ab_M_X10_isReady = M' := Option.some.inj hG
  unfold H_X10_isReady at hP
  split at hP
  · rename_i x0 x1 x2
    exact dc_pv.imp (k_X10_isReady (Φ := fun (t : Int32) r m' => P (k (some (.int t)) m) → P (k r m')) x0 x1 x2 m (fun _  h => h) rfl rfl rfl) (fun r m' h => h hP)
  · exact absurd hP hz
def C_X10_isUnsafe : List (Nat × dc_H) := []
theorem CO_X10_isUnsafe {u : Nat} : dc_CO u C_X10_isUnsafe := dc_CO_nil
def S_X10_isUnsafe : List (Nat × List Nat) := []
def d_X10_isUnsafe (x0 : Nat) (x1 : Int32) (x2 : Int32) (m : dc_M) : Int32 :=
  (if (Int32.toInt ((x2 &&& ((m.1 (x0 + 6) (Int32.toNatClampNeg x1)) ^^^ (-1 : Int32))) &&& (m.1 (x0 + 7) (Int32.toNatClampNeg x1)))) = 0 then (0 : Int32) else (1 : Int32))
set_option maxHeartbeats 8000000 in
theorem k_X10_isUnsafe {u : Nat} {N : Nat} {Φ : Int32 → Option Value → dc_M → Prop} (x0 : Nat) (x1 : Int32) (x2 : Int32) (m : dc_M) (kR : ∀ (v : Int32), Φ (v) (some (.int v)) m)  {lv : ab_L} (f0 : ab_lk lv 0 = some (.ref x0)) (f1 : ab_lk lv 1 = some (.int x1)) (f2 : ab_lk lv 2 = some (.int x2)) : dc_pv u N ab_M_X10_isUnsafe 0 lv [] m (Φ (d_X10_isUnsafe x0 x1 x2 m)) := by
  refine dc_pv.mono (dc_ok (C := C_X10_isUnsafe) (S := S_X10_isUnsafe) CO_X10_isUnsafe 400 0 [(0, .ref x0), (1, .int x1), (2, .int x2)] lv [] m (dc_sub_cons f0 (dc_sub_cons f1 (dc_sub_cons f2 (dc_sub_nil)))) ?_) (Nat.le_succ N)
  unfold d_X10_isUnsafe
  refine dg_s (pc' := 1) [.int x2] rfl (fun _ => rfl) rfl ?_
  refine dg_s (pc' := 2) [.ref x0, .int x2] rfl (fun _ => rfl) rfl ?_
  refine dg_s (pc' := 5) [.ref (x0 + 6), .int x2] rfl (fun _ => rfl) rfl ?_
  refine dg_s (pc' := 6) [.int x1, .ref (x0 + 6), .int x2] rfl (fun _ => rfl) rfl ?_
  refine dg_s (pc' := 7) [.int (m.1 (x0 + 6) (Int32.toNatClampNeg x1)), .int x2] rfl (fun _ => rfl) rfl ?_
  refine dg_s (pc' := 8) [.int (-1 : Int32), .int (m.1 (x0 + 6) (Int32.toNatClampNeg x1)), .int x2] rfl (fun _ => rfl) rfl ?_
  refine dg_s (pc' := 9) [.int ((m.1 (x0 + 6) (Int32.toNatClampNeg x1)) ^^^ (-1 : Int32)), .int x2] rfl (fun _ => rfl) rfl ?_
  refine dg_s (pc' := 10) [.int (x2 &&& ((m.1 (x0 + 6) (Int32.toNatClampNeg x1)) ^^^ (-1 : Int32)))] rfl (fun _ => rfl) rfl ?_
  refine dg_s (pc' := 11) [.ref x0, .int (x2 &&& ((m.1 (x0 + 6) (Int32.toNatClampNeg x1)) ^^^ (-1 : Int32)))] rfl (fun _ => rfl) rfl ?_
  refine dg_s (pc' := 14) [.ref (x0 + 7), .int (x2 &&& ((m.1 (x0 + 6) (Int32.toNatClampNeg x1)) ^^^ (-1 : Int32)))] rfl (fun _ => rfl) rfl ?_
  refine dg_s (pc' := 15) [.int x1, .ref (x0 + 7), .int (x2 &&& ((m.1 (x0 + 6) (Int32.toNatClampNeg x1)) ^^^ (-1 : Int32)))] rfl (fun _ => rfl) rfl ?_
  refine dg_s (pc' := 16) [.int (m.1 (x0 + 7) (Int32.toNatClampNeg x1)), .int (x2 &&& ((m.1 (x0 + 6) (Int32.toNatClampNeg x1)) ^^^ (-1 : Int32)))] rfl (fun _ => rfl) rfl ?_
  refine dg_s (pc' := 17) [.int ((x2 &&& ((m.1 (x0 + 6) (Int32.toNatClampNeg x1)) ^^^ (-1 : Int32))) &&& (m.1 (x0 + 7) (Int32.toNatClampNeg x1)))] rfl (fun _ => rfl) rfl ?_
  refine dw_if (fun t => Φ t) ((Int32.toInt ((x2 &&& ((m.1 (x0 + 6) (Int32.toNatClampNeg x1)) ^^^ (-1 : Int32))) &&& (m.1 (x0 + 7) (Int32.toNatClampNeg x1)))) = 0) [] 24 20 rfl (fun _ => rfl) (fun c0 => ?_) (fun c0 => ?_)
  · refine dw_g rfl ?_
    refine dg_s (pc' := 25) [.int (0 : Int32)] rfl (fun _ => rfl) rfl ?_
    exact dw_r (some (.inl (some (.int (0 : Int32)), m))) rfl (fun _ => rfl) (kR _)
  · refine dw_g rfl ?_
    refine dg_s (pc' := 21) [.int (1 : Int32)] rfl (fun _ => rfl) rfl ?_
    refine dg_s (pc' := 25) [.int (1 : Int32)] rfl (fun _ => rfl) rfl ?_
    exact dw_r (some (.inl (some (.int (1 : Int32)), m))) rfl (fun _ => rfl) (kR _)
def H_X10_isUnsafe : dc_H := fun As m k => match As with
  | [.ref x0, .int x1, .int x2] => k (some (.int (d_X10_isUnsafe x0 x1 x2 m))) m
  | _ => dc_kz
theorem H_X10_isUnsafe_ok {u : Nat} : dc_cok u 170 H_X10_isUnsafe := fun M' hG N As m k P hz hP => by
  obtain rfl : ab_M_X10_isUnsafe = M' := Option.some.inj hG
  unfold H_X10_isUnsafe at hP
  split at hP
  · rename_i x0 x1 x2
    exact dc_pv.imp (k_X10_isUnsafe (Φ := fun (t : Int32) r m' => P (k (some (.int t)) m) → P (k r m')) x0 x1 x2 m (fun _  h => h) rfl rfl rfl) (fun r m' h => h hP)
  · exact absurd hP hz
def C_X10_after : List (Nat × dc_H) := []
theorem CO_X10_after {u : Nat} : dc_CO u C_X10_after := dc_CO_nil
def S_X10_after : List (Nat × List Nat) := []
def d_X10_after (x0 : Nat) (x1 : Int32) (x2 : Int32) (m : dc_M) : Int32 :=
  ((x2 &&& ((m.1 (x0 + 6) (Int32.toNatClampNeg x1)) ^^^ (-1 : Int32))) ||| (m.1 (x0 + 7) (Int32.toNatClampNeg x1)))
set_option maxHeartbeats 8000000 in
theorem k_X10_after {u : Nat} {N : Nat} {Φ : Int32 → Option Value → dc_M → Prop} (x0 : Nat) (x1 : Int32) (x2 : Int32) (m : dc_M) (kR : ∀ (v : Int32), Φ (v) (some (.int v)) m)  {lv : ab_L} (f0 : ab_lk lv 0 = some (.ref x0)) (f1 : ab_lk lv 1 = some (.int x1)) (f2 : ab_lk lv 2 = some (.int x2)) : dc_pv u N ab_M_X10_after 0 lv [] m (Φ (d_X10_after x0 x1 x2 m)) := by
  refine dc_pv.mono (dc_ok (C := C_X10_after) (S := S_X10_after) CO_X10_after 400 0 [(0, .ref x0), (1, .int x1), (2, .int x2)] lv [] m (dc_sub_cons f0 (dc_sub_cons f1 (dc_sub_cons f2 (dc_sub_nil)))) ?_) (Nat.le_succ N)
  unfold d_X10_after
  refine dg_s (pc' := 1) [.int x2] rfl (fun _ => rfl) rfl ?_
  refine dg_s (pc' := 2) [.ref x0, .int x2] rfl (fun _ => rfl) rfl ?_
  refine dg_s (pc' := 5) [.ref (x0 + 6), .int x2] rfl (fun _ => rfl) rfl ?_
  refine dg_s (pc' := 6) [.int x1, .ref (x0 + 6), .int x2] rfl (fun _ => rfl) rfl ?_
  refine dg_s (pc' := 7) [.int (m.1 (x0 + 6) (Int32.toNatClampNeg x1)), .int x2] rfl (fun _ => rfl) rfl ?_
  refine dg_s (pc' := 8) [.int (-1 : Int32), .int (m.1 (x0 + 6) (Int32.toNatClampNeg x1)), .int x2] rfl (fun _ => rfl) rfl ?_
  refine dg_s (pc' := 9) [.int ((m.1 (x0 + 6) (Int32.toNatClampNeg x1)) ^^^ (-1 : Int32)), .int x2] rfl (fun _ => rfl) rfl ?_
  refine dg_s (pc' := 10) [.int (x2 &&& ((m.1 (x0 + 6) (Int32.toNatClampNeg x1)) ^^^ (-1 : Int32)))] rfl (fun _ => rfl) rfl ?_
  refine dg_s (pc' := 11) [.ref x0, .int (x2 &&& ((m.1 (x0 + 6) (Int32.toNatClampNeg x1)) ^^^ (-1 : Int32)))] rfl (fun _ => rfl) rfl ?_
  refine dg_s (pc' := 14) [.ref (x0 + 7), .int (x2 &&& ((m.1 (x0 + 6) (Int32.toNatClampNeg x1)) ^^^ (-1 : Int32)))] rfl (fun _ => rfl) rfl ?_
  refine dg_s (pc' := 15) [.int x1, .ref (x0 + 7), .int (x2 &&& ((m.1 (x0 + 6) (Int32.toNatClampNeg x1)) ^^^ (-1 : Int32)))] rfl (fun _ => rfl) rfl ?_
  refine dg_s (pc' := 16) [.int (m.1 (x0 + 7) (Int32.toNatClampNeg x1)), .int (x2 &&& ((m.1 (x0 + 6) (Int32.toNatClampNeg x1)) ^^^ (-1 : Int32)))] rfl (fun _ => rfl) rfl ?_
  refine dg_s (pc' := 17) [.int ((x2 &&& ((m.1 (x0 + 6) (Int32.toNatClampNeg x1)) ^^^ (-1 : Int32))) ||| (m.1 (x0 + 7) (Int32.toNatClampNeg x1)))] rfl (fun _ => rfl) rfl ?_
  exact dw_r (some (.inl (some (.int ((x2 &&& ((m.1 (x0 + 6) (Int32.toNatClampNeg x1)) ^^^ (-1 : Int32))) ||| (m.1 (x0 + 7) (Int32.toNatClampNeg x1)))), m))) rfl (fun _ => rfl) (kR _)
def H_X10_after : dc_H := fun As m k => match As with
  | [.ref x0, .int x1, .int x2] => k (some (.int (d_X10_after x0 x1 x2 m))) m
  | _ => dc_kz
theorem H_X10_after_ok {u : Nat} : dc_cok u 171 H_X10_after := fun M' hG N As m k P hz hP => by
  obtain rfl : ab_M_X10_after = M' := Option.some.inj hG
  unfold H_X10_after at hP
  split at hP
  · rename_i x0 x1 x2
    exact dc_pv.imp (k_X10_after (Φ := fun (t : Int32) r m' => P (k (some (.int t)) m) → P (k r m')) x0 x1 x2 m (fun _  h => h) rfl rfl rfl) (fun r m' h => h hP)
  · exact absurd hP hz
def C_X10_stateOf : List (Nat × dc_H) := []
theorem CO_X10_stateOf {u : Nat} : dc_CO u C_X10_stateOf := dc_CO_nil
def S_X10_stateOf : List (Nat × List Nat) := [(2, [0, 1, 2])]
noncomputable def d_X10_stateOf_l2b (x0 : Nat) (x1 : Int32) (x2 : Int32) (m : dc_M) : Option (Int32 ⊕ Int32) :=
  (if (Int32.toInt (m.1 x0 32)) ≤ (Int32.toInt x2) then some (Sum.inr (x2)) else (if (Int32.toInt (m.1 (x0 + 17) (Int32.toNatClampNeg x2))) = (Int32.toInt x1) then some (Sum.inr (x2)) else some (Sum.inl (x2 + (1 : Int32)))))
noncomputable def d_X10_stateOf_l2s (x0 : Nat) (x1 : Int32) (m : dc_M) : Int32 → Option (Int32 ⊕ Int32) := fun s => d_X10_stateOf_l2b x0 x1 s m
noncomputable def d_X10_stateOf_l2 (x0 : Nat) (x1 : Int32) (x2 : Int32) (m : dc_M) : Option Int32 := dc_lp (d_X10_stateOf_l2s x0 x1 m) x2
set_option maxHeartbeats 8000000 in
theorem k_X10_stateOf_l2 {u : Nat} {Φ : (Option Int32) → Option Value → dc_M → Prop} (x0 : Nat) (x1 : Int32) (m : dc_M) (kR : ∀ (v : Int32), Φ (some (v)) (some (.int v)) m) : ∀ (N : Nat), ∀ (x2 : Int32) (lv : ab_L), ab_lk lv 0 = some (.ref x0) → ab_lk lv 1 = some (.int x1) → ab_lk lv 2 = some (.int x2) → dc_pv u N ab_M_X10_stateOf 2 lv [] m (Φ (d_X10_stateOf_l2 x0 x1 x2 m)) := by
  intro N
  induction N with
  | zero => intros; exact dc_pv_zero
  | succ N ih =>
    intro x2 lv f0 f1 f2
    refine dc_ok (C := C_X10_stateOf) (S := S_X10_stateOf) CO_X10_stateOf 400 2 [(0, .ref x0), (1, .int x1), (2, .int x2)] lv [] m (dc_sub_cons f0 (dc_sub_cons f1 (dc_sub_cons f2 (dc_sub_nil)))) ?_
    unfold d_X10_stateOf_l2
    rw [dc_lp_eq]
    show (fun t x => dc_lf u N ab_M_X10_stateOf (Φ (Option.bind t (dc_bk (d_X10_stateOf_l2s x0 x1 m)))) x) (d_X10_stateOf_l2b x0 x1 x2 m) _
    dsimp only
    unfold d_X10_stateOf_l2b
    refine dg_s (pc' := 3) [.int x2] rfl (fun _ => rfl) rfl ?_
    refine dg_s (pc' := 4) [.ref x0, .int x2] rfl (fun _ => rfl) rfl ?_
    refine dg_s (pc' := 7) [.int (m.1 x0 32), .int x2] rfl (fun _ => rfl) rfl ?_
    refine dw_if (fun t => Φ (Option.bind t (dc_bk (d_X10_stateOf_l2s x0 x1 m)))) ((Int32.toInt (m.1 x0 32)) ≤ (Int32.toInt x2)) [] 26 10 rfl (fun _ => rfl) (fun c0 => ?_) (fun c0 => ?_)
    · refine dw_g rfl ?_
      refine dg_s (pc' := 27) [.int x2] rfl (fun _ => rfl) rfl ?_
      exact dw_r (some (.inl (some (.int x2), m))) rfl (fun _ => rfl) (kR _)
    · refine dw_g rfl ?_
      refine dg_s (pc' := 11) [.ref x0] rfl (fun _ => rfl) rfl ?_
      refine dg_s (pc' := 14) [.ref (x0 + 17)] rfl (fun _ => rfl) rfl ?_
      refine dg_s (pc' := 15) [.int x2, .ref (x0 + 17)] rfl (fun _ => rfl) rfl ?_
      refine dg_s (pc' := 16) [.int (m.1 (x0 + 17) (Int32.toNatClampNeg x2))] rfl (fun _ => rfl) rfl ?_
      refine dg_s (pc' := 17) [.int x1, .int (m.1 (x0 + 17) (Int32.toNatClampNeg x2))] rfl (fun _ => rfl) rfl ?_
      refine dw_if (fun t => Φ (Option.bind t (dc_bk (d_X10_stateOf_l2s x0 x1 m)))) ((Int32.toInt (m.1 (x0 + 17) (Int32.toNatClampNeg x2))) = (Int32.toInt x1)) [] 26 20 rfl (fun _ => rfl) (fun c1 => ?_) (fun c1 => ?_)
      · refine dw_g rfl ?_
        refine dg_s (pc' := 27) [.int x2] rfl (fun _ => rfl) rfl ?_
        exact dw_r (some (.inl (some (.int x2), m))) rfl (fun _ => rfl) (kR _)
      · refine dw_g rfl ?_
        refine dg_L (pc' := 23) [(2, .int (x2 + (1 : Int32))), (0, .ref x0), (1, .int x1)] [] rfl (fun _ => rfl) rfl ?_
        refine dw_s (pc' := 2) [] rfl (fun _ => rfl) ?_
        exact dw_j rfl (fun lv1 hv => ih (x2 + (1 : Int32)) lv1 (hv.1 _ rfl) (hv.2.1 _ rfl) (hv.2.2.1 _ rfl))
noncomputable def d_X10_stateOf (x0 : Nat) (x1 : Int32) (m : dc_M) : Option Int32 :=
  (d_X10_stateOf_l2 x0 x1 (0 : Int32) m)
set_option maxHeartbeats 8000000 in
theorem k_X10_stateOf {u : Nat} {N : Nat} {Φ : (Option Int32) → Option Value → dc_M → Prop} (x0 : Nat) (x1 : Int32) (m : dc_M) (kR : ∀ (v : Int32), Φ (some (v)) (some (.int v)) m)  {lv : ab_L} (f0 : ab_lk lv 0 = some (.ref x0)) (f1 : ab_lk lv 1 = some (.int x1)) : dc_pv u N ab_M_X10_stateOf 0 lv [] m (Φ (d_X10_stateOf x0 x1 m)) := by
  refine dc_pv.mono (dc_ok (C := C_X10_stateOf) (S := S_X10_stateOf) CO_X10_stateOf 400 0 [(0, .ref x0), (1, .int x1)] lv [] m (dc_sub_cons f0 (dc_sub_cons f1 (dc_sub_nil))) ?_) (Nat.le_succ N)
  unfold d_X10_stateOf
  refine dg_s (pc' := 1) [.int (0 : Int32)] rfl (fun _ => rfl) rfl ?_
  refine dw_L (pc' := 2) [(2, .int (0 : Int32)), (0, .ref x0), (1, .int x1)] [] rfl (fun _ => rfl) ?_
  exact dw_j rfl (fun lv1 hv => k_X10_stateOf_l2 (Φ := (fun t => Φ t)) x0 x1 m (fun _a  => kR _a) N  (0 : Int32) lv1 (hv.1 _ rfl) (hv.2.1 _ rfl) (hv.2.2.1 _ rfl))
noncomputable def H_X10_stateOf : dc_H := fun As m k => match As with
  | [.ref x0, .int x1] => (d_X10_stateOf x0 x1 m).bind (fun q => k (some (.int q)) m)
  | _ => dc_kz
theorem H_X10_stateOf_ok {u : Nat} : dc_cok u 172 H_X10_stateOf := fun M' hG N As m k P hz hP => by
  obtain rfl : ab_M_X10_stateOf = M' := Option.some.inj hG
  unfold H_X10_stateOf at hP
  split at hP
  · rename_i x0 x1
    exact dc_pv.imp (k_X10_stateOf (Φ := fun (t : Option Int32) r m' => P (t.bind (fun q => k (some (.int q)) m)) → P (k r m')) x0 x1 m (fun _  h => h) rfl rfl) (fun r m' h => h hP)
  · exact absurd hP hz
noncomputable def C_X10_layStates : List (Nat × dc_H) := [(171, H_X10_after), (169, H_X10_isReady), (170, H_X10_isUnsafe), (172, H_X10_stateOf)]
theorem CO_X10_layStates {u : Nat} : dc_CO u C_X10_layStates := dc_CO_cons H_X10_after_ok (dc_CO_cons H_X10_isReady_ok (dc_CO_cons H_X10_isUnsafe_ok (dc_CO_cons H_X10_stateOf_ok (dc_CO_nil))))
def S_X10_layStates : List (Nat × List Nat) := [(22, [0, 1]), (32, [0, 1, 2])]
noncomputable def d_X10_layStates_l32b (x0 : Nat) (x1 : Int32) (x2 : Int32) (m : dc_M) : Option ((Int32 × dc_M) ⊕ ((Int32 × dc_M) ⊕ (Int32 × dc_M))) :=
  (if (Int32.toInt (m.1 x0 3)) ≤ (Int32.toInt x2) then some (Sum.inr (Sum.inl ((x1 + (1 : Int32)), m))) else (if (Int32.toInt (d_X10_isReady x0 x2 ((dc_wi m (x0 + 18) (Int32.toNatClampNeg (((16 : Int32) * x1) + x2)) (-4 : Int32)).1 (x0 + 17) (Int32.toNatClampNeg x1)) (dc_wi m (x0 + 18) (Int32.toNatClampNeg (((16 : Int32) * x1) + x2)) (-4 : Int32)))) = 0 then some (Sum.inl ((x2 + (1 : Int32)), (dc_wi m (x0 + 18) (Int32.toNatClampNeg (((16 : Int32) * x1) + x2)) (-4 : Int32)))) else (if (Int32.toInt (d_X10_isUnsafe x0 x2 ((dc_wi m (x0 + 18) (Int32.toNatClampNeg (((16 : Int32) * x1) + x2)) (-4 : Int32)).1 (x0 + 17) (Int32.toNatClampNeg x1)) (dc_wi m (x0 + 18) (Int32.toNatClampNeg (((16 : Int32) * x1) + x2)) (-4 : Int32)))) = 0 then ((d_X10_stateOf x0 (d_X10_after x0 x2 ((dc_wi m (x0 + 18) (Int32.toNatClampNeg (((16 : Int32) * x1) + x2)) (-4 : Int32)).1 (x0 + 17) (Int32.toNatClampNeg x1)) (dc_wi m (x0 + 18) (Int32.toNatClampNeg (((16 : Int32) * x1) + x2)) (-4 : Int32))) (dc_wi m (x0 + 18) (Int32.toNatClampNeg (((16 : Int32) * x1) + x2)) (-4 : Int32))).bind (fun q1 => (if ¬ (Int32.toInt q1) = 200 then (if ¬ (Int32.toInt q1) = (Int32.toInt ((dc_wi m (x0 + 18) (Int32.toNatClampNeg (((16 : Int32) * x1) + x2)) (-4 : Int32)).1 x0 32)) then some (Sum.inl ((x2 + (1 : Int32)), (dc_wi (dc_wi m (x0 + 18) (Int32.toNatClampNeg (((16 : Int32) * x1) + x2)) (-4 : Int32)) (x0 + 18) (Int32.toNatClampNeg (((16 : Int32) * x1) + x2)) q1))) else some (Sum.inl ((x2 + (1 : Int32)), (dc_wi (dc_wi (dc_wi (dc_wi m (x0 + 18) (Int32.toNatClampNeg (((16 : Int32) * x1) + x2)) (-4 : Int32)) (x0 + 17) (Int32.toNatClampNeg q1) (d_X10_after x0 x2 ((dc_wi m (x0 + 18) (Int32.toNatClampNeg (((16 : Int32) * x1) + x2)) (-4 : Int32)).1 (x0 + 17) (Int32.toNatClampNeg x1)) (dc_wi m (x0 + 18) (Int32.toNatClampNeg (((16 : Int32) * x1) + x2)) (-4 : Int32)))) x0 32 (((dc_wi (dc_wi m (x0 + 18) (Int32.toNatClampNeg (((16 : Int32) * x1) + x2)) (-4 : Int32)) (x0 + 17) (Int32.toNatClampNeg q1) (d_X10_after x0 x2 ((dc_wi m (x0 + 18) (Int32.toNatClampNeg (((16 : Int32) * x1) + x2)) (-4 : Int32)).1 (x0 + 17) (Int32.toNatClampNeg x1)) (dc_wi m (x0 + 18) (Int32.toNatClampNeg (((16 : Int32) * x1) + x2)) (-4 : Int32)))).1 x0 32) + (1 : Int32))) (x0 + 18) (Int32.toNatClampNeg (((16 : Int32) * x1) + x2)) q1)))) else some (Sum.inr (Sum.inr ((((dc_wi (dc_wi m (x0 + 18) (Int32.toNatClampNeg (((16 : Int32) * x1) + x2)) (-4 : Int32)) x0 33 (-6 : Int32)).1 x0 33), (dc_wi (dc_wi m (x0 + 18) (Int32.toNatClampNeg (((16 : Int32) * x1) + x2)) (-4 : Int32)) x0 33 (-6 : Int32))))))))) else some (Sum.inr (Sum.inr ((((dc_wi (dc_wi m (x0 + 18) (Int32.toNatClampNeg (((16 : Int32) * x1) + x2)) (-4 : Int32)) x0 33 (-2 : Int32)).1 x0 33), (dc_wi (dc_wi m (x0 + 18) (Int32.toNatClampNeg (((16 : Int32) * x1) + x2)) (-4 : Int32)) x0 33 (-2 : Int32)))))))))
noncomputable def d_X10_layStates_l32s (x0 : Nat) (x1 : Int32) : (Int32 × dc_M) → Option ((Int32 × dc_M) ⊕ ((Int32 × dc_M) ⊕ (Int32 × dc_M))) := fun s => d_X10_layStates_l32b x0 x1 s.1 s.2
noncomputable def d_X10_layStates_l32 (x0 : Nat) (x1 : Int32) (x2 : Int32) (m : dc_M) : Option ((Int32 × dc_M) ⊕ (Int32 × dc_M)) := dc_lp (d_X10_layStates_l32s x0 x1) (x2, m)
set_option maxHeartbeats 8000000 in
theorem k_X10_layStates_l32 {u : Nat} {Φ : (Option ((Int32 × dc_M) ⊕ (Int32 × dc_M))) → Option Value → dc_M → Prop} (x0 : Nat) (x1 : Int32) (kR : ∀ (v : Int32) (m : dc_M), Φ (some (Sum.inr ((v, m)))) (some (.int v)) m) : ∀ (N : Nat), (∀ (x1 : Int32) (m : dc_M) (lv : ab_L), ab_lk lv 0 = some (.ref x0) → ab_lk lv 1 = some (.int x1) →  dc_pv u N ab_M_X10_layStates 22 lv [] m (Φ (some (Sum.inl (x1, m))))) → ∀ (x2 : Int32) (m : dc_M) (lv : ab_L), ab_lk lv 0 = some (.ref x0) → ab_lk lv 1 = some (.int x1) → ab_lk lv 2 = some (.int x2) → dc_pv u N ab_M_X10_layStates 32 lv [] m (Φ (d_X10_layStates_l32 x0 x1 x2 m)) := by
  intro N
  induction N with
  | zero => intros; exact dc_pv_zero
  | succ N ih =>
    intro k22 x2 m lv f0 f1 f2
    have k22 := fun a0 a1 a2 a3 a4 => (k22 a0 a1 a2 a3 a4).mono (Nat.le_succ N)
    have ih := ih k22
    refine dc_ok (C := C_X10_layStates) (S := S_X10_layStates) CO_X10_layStates 400 32 [(0, .ref x0), (1, .int x1), (2, .int x2)] lv [] m (dc_sub_cons f0 (dc_sub_cons f1 (dc_sub_cons f2 (dc_sub_nil)))) ?_
    unfold d_X10_layStates_l32
    rw [dc_lp_eq]
    show (fun t x => dc_lf u N ab_M_X10_layStates (Φ (Option.bind t (dc_bk (d_X10_layStates_l32s x0 x1)))) x) (d_X10_layStates_l32b x0 x1 x2 m) _
    dsimp only
    unfold d_X10_layStates_l32b
    refine dg_s (pc' := 33) [.int x2] rfl (fun _ => rfl) rfl ?_
    refine dg_s (pc' := 34) [.ref x0, .int x2] rfl (fun _ => rfl) rfl ?_
    refine dg_s (pc' := 37) [.int (m.1 x0 3), .int x2] rfl (fun _ => rfl) rfl ?_
    refine dw_if (fun t => Φ (Option.bind t (dc_bk (d_X10_layStates_l32s x0 x1)))) ((Int32.toInt (m.1 x0 3)) ≤ (Int32.toInt x2)) [] 176 40 rfl (fun _ => rfl) (fun c0 => ?_) (fun c0 => ?_)
    · refine dw_g rfl ?_
      refine dg_L (pc' := 179) [(1, .int (x1 + (1 : Int32))), (0, .ref x0), (2, .int x2)] [] rfl (fun _ => rfl) rfl ?_
      refine dw_s (pc' := 22) [] rfl (fun _ => rfl) ?_
      exact dw_j rfl (fun lv1 hv => k22 (x1 + (1 : Int32)) m lv1 (hv.1 _ rfl) (hv.2.1 _ rfl))
    · refine dw_g rfl ?_
      refine dg_s (pc' := 41) [.ref x0] rfl (fun _ => rfl) rfl ?_
      refine dg_s (pc' := 44) [.ref (x0 + 18)] rfl (fun _ => rfl) rfl ?_
      refine dg_s (pc' := 46) [.int (16 : Int32), .ref (x0 + 18)] rfl (fun _ => rfl) rfl ?_
      refine dg_s (pc' := 47) [.int x1, .int (16 : Int32), .ref (x0 + 18)] rfl (fun _ => rfl) rfl ?_
      refine dg_s (pc' := 48) [.int ((16 : Int32) * x1), .ref (x0 + 18)] rfl (fun _ => rfl) rfl ?_
      refine dg_s (pc' := 49) [.int x2, .int ((16 : Int32) * x1), .ref (x0 + 18)] rfl (fun _ => rfl) rfl ?_
      refine dg_s (pc' := 50) [.int (((16 : Int32) * x1) + x2), .ref (x0 + 18)] rfl (fun _ => rfl) rfl ?_
      refine dg_s (pc' := 52) [.int (-4 : Int32), .int (((16 : Int32) * x1) + x2), .ref (x0 + 18)] rfl (fun _ => rfl) rfl ?_
      refine dg_m (pc' := 53) (dc_wi m (x0 + 18) (Int32.toNatClampNeg (((16 : Int32) * x1) + x2)) (-4 : Int32)) [] rfl (fun _ => rfl) rfl ?_
      refine dg_s (pc' := 54) [.ref x0] rfl (fun _ => rfl) rfl ?_
      refine dg_s (pc' := 55) [.int x2, .ref x0] rfl (fun _ => rfl) rfl ?_
      refine dg_s (pc' := 56) [.ref x0, .int x2, .ref x0] rfl (fun _ => rfl) rfl ?_
      refine dg_s (pc' := 59) [.ref (x0 + 17), .int x2, .ref x0] rfl (fun _ => rfl) rfl ?_
      refine dg_s (pc' := 60) [.int x1, .ref (x0 + 17), .int x2, .ref x0] rfl (fun _ => rfl) rfl ?_
      refine dg_s (pc' := 61) [.int ((dc_wi m (x0 + 18) (Int32.toNatClampNeg (((16 : Int32) * x1) + x2)) (-4 : Int32)).1 (x0 + 17) (Int32.toNatClampNeg x1)), .int x2, .ref x0] rfl (fun _ => rfl) rfl ?_
      refine dg_s (pc' := 64) [.int (d_X10_isReady x0 x2 ((dc_wi m (x0 + 18) (Int32.toNatClampNeg (((16 : Int32) * x1) + x2)) (-4 : Int32)).1 (x0 + 17) (Int32.toNatClampNeg x1)) (dc_wi m (x0 + 18) (Int32.toNatClampNeg (((16 : Int32) * x1) + x2)) (-4 : Int32)))] rfl (fun _ => rfl) rfl ?_
      refine dw_if (fun t => Φ (Option.bind t (dc_bk (d_X10_layStates_l32s x0 x1)))) ((Int32.toInt (d_X10_isReady x0 x2 ((dc_wi m (x0 + 18) (Int32.toNatClampNeg (((16 : Int32) * x1) + x2)) (-4 : Int32)).1 (x0 + 17) (Int32.toNatClampNeg x1)) (dc_wi m (x0 + 18) (Int32.toNatClampNeg (((16 : Int32) * x1) + x2)) (-4 : Int32)))) = 0) [] 170 67 rfl (fun _ => rfl) (fun c1 => ?_) (fun c1 => ?_)
      · refine dw_g rfl ?_
        refine dg_L (pc' := 173) [(2, .int (x2 + (1 : Int32))), (0, .ref x0), (1, .int x1)] [] rfl (fun _ => rfl) rfl ?_
        refine dw_s (pc' := 32) [] rfl (fun _ => rfl) ?_
        exact dw_j rfl (fun lv1 hv => ih (x2 + (1 : Int32)) (dc_wi m (x0 + 18) (Int32.toNatClampNeg (((16 : Int32) * x1) + x2)) (-4 : Int32)) lv1 (hv.1 _ rfl) (hv.2.1 _ rfl) (hv.2.2.1 _ rfl))
      · refine dw_g rfl ?_
        refine dg_s (pc' := 68) [.ref x0] rfl (fun _ => rfl) rfl ?_
        refine dg_s (pc' := 69) [.int x2, .ref x0] rfl (fun _ => rfl) rfl ?_
        refine dg_s (pc' := 70) [.ref x0, .int x2, .ref x0] rfl (fun _ => rfl) rfl ?_
        refine dg_s (pc' := 73) [.ref (x0 + 17), .int x2, .ref x0] rfl (fun _ => rfl) rfl ?_
        refine dg_s (pc' := 74) [.int x1, .ref (x0 + 17), .int x2, .ref x0] rfl (fun _ => rfl) rfl ?_
        refine dg_s (pc' := 75) [.int ((dc_wi m (x0 + 18) (Int32.toNatClampNeg (((16 : Int32) * x1) + x2)) (-4 : Int32)).1 (x0 + 17) (Int32.toNatClampNeg x1)), .int x2, .ref x0] rfl (fun _ => rfl) rfl ?_
        refine dg_s (pc' := 78) [.int (d_X10_isUnsafe x0 x2 ((dc_wi m (x0 + 18) (Int32.toNatClampNeg (((16 : Int32) * x1) + x2)) (-4 : Int32)).1 (x0 + 17) (Int32.toNatClampNeg x1)) (dc_wi m (x0 + 18) (Int32.toNatClampNeg (((16 : Int32) * x1) + x2)) (-4 : Int32)))] rfl (fun _ => rfl) rfl ?_
        refine dw_if (fun t => Φ (Option.bind t (dc_bk (d_X10_layStates_l32s x0 x1)))) ((Int32.toInt (d_X10_isUnsafe x0 x2 ((dc_wi m (x0 + 18) (Int32.toNatClampNeg (((16 : Int32) * x1) + x2)) (-4 : Int32)).1 (x0 + 17) (Int32.toNatClampNeg x1)) (dc_wi m (x0 + 18) (Int32.toNatClampNeg (((16 : Int32) * x1) + x2)) (-4 : Int32)))) = 0) [] 92 81 rfl (fun _ => rfl) (fun c2 => ?_) (fun c2 => ?_)
        · refine dw_g rfl ?_
          refine dg_s (pc' := 93) [.ref x0] rfl (fun _ => rfl) rfl ?_
          refine dg_s (pc' := 94) [.int x2, .ref x0] rfl (fun _ => rfl) rfl ?_
          refine dg_s (pc' := 95) [.ref x0, .int x2, .ref x0] rfl (fun _ => rfl) rfl ?_
          refine dg_s (pc' := 98) [.ref (x0 + 17), .int x2, .ref x0] rfl (fun _ => rfl) rfl ?_
          refine dg_s (pc' := 99) [.int x1, .ref (x0 + 17), .int x2, .ref x0] rfl (fun _ => rfl) rfl ?_
          refine dg_s (pc' := 100) [.int ((dc_wi m (x0 + 18) (Int32.toNatClampNeg (((16 : Int32) * x1) + x2)) (-4 : Int32)).1 (x0 + 17) (Int32.toNatClampNeg x1)), .int x2, .ref x0] rfl (fun _ => rfl) rfl ?_
          refine dg_s (pc' := 103) [.int (d_X10_after x0 x2 ((dc_wi m (x0 + 18) (Int32.toNatClampNeg (((16 : Int32) * x1) + x2)) (-4 : Int32)).1 (x0 + 17) (Int32.toNatClampNeg x1)) (dc_wi m (x0 + 18) (Int32.toNatClampNeg (((16 : Int32) * x1) + x2)) (-4 : Int32)))] rfl (fun _ => rfl) rfl ?_
          refine dg_L (pc' := 104) [(3, .int (d_X10_after x0 x2 ((dc_wi m (x0 + 18) (Int32.toNatClampNeg (((16 : Int32) * x1) + x2)) (-4 : Int32)).1 (x0 + 17) (Int32.toNatClampNeg x1)) (dc_wi m (x0 + 18) (Int32.toNatClampNeg (((16 : Int32) * x1) + x2)) (-4 : Int32)))), (0, .ref x0), (1, .int x1), (2, .int x2)] [] rfl (fun _ => rfl) rfl ?_
          refine dg_s (pc' := 105) [.ref x0] rfl (fun _ => rfl) rfl ?_
          refine dg_s (pc' := 106) [.int (d_X10_after x0 x2 ((dc_wi m (x0 + 18) (Int32.toNatClampNeg (((16 : Int32) * x1) + x2)) (-4 : Int32)).1 (x0 + 17) (Int32.toNatClampNeg x1)) (dc_wi m (x0 + 18) (Int32.toNatClampNeg (((16 : Int32) * x1) + x2)) (-4 : Int32))), .ref x0] rfl (fun _ => rfl) rfl ?_
          refine dw_b (fun t => Φ (Option.bind t (dc_bk (d_X10_layStates_l32s x0 x1)))) (pc' := 109) (fun q1 => [.int q1]) (fun q1 => (dc_wi m (x0 + 18) (Int32.toNatClampNeg (((16 : Int32) * x1) + x2)) (-4 : Int32))) rfl (fun _ => rfl) (fun q1 => ?_)
          refine dw_g rfl ?_
          refine dg_L (pc' := 111) [(4, .int q1), (3, .int (d_X10_after x0 x2 ((dc_wi m (x0 + 18) (Int32.toNatClampNeg (((16 : Int32) * x1) + x2)) (-4 : Int32)).1 (x0 + 17) (Int32.toNatClampNeg x1)) (dc_wi m (x0 + 18) (Int32.toNatClampNeg (((16 : Int32) * x1) + x2)) (-4 : Int32)))), (0, .ref x0), (1, .int x1), (2, .int x2)] [] rfl (fun _ => rfl) rfl ?_
          refine dg_s (pc' := 113) [.int q1] rfl (fun _ => rfl) rfl ?_
          refine dg_s (pc' := 116) [.int (200 : Int32), .int q1] rfl (fun _ => rfl) rfl ?_
          refine dw_if (fun t => Φ (Option.bind t (dc_bk (d_X10_layStates_l32s x0 x1)))) (¬ (Int32.toInt q1) = 200) [] 130 119 rfl (fun _ => rfl) (fun c3 => ?_) (fun c3 => ?_)
          · refine dw_g rfl ?_
            refine dg_s (pc' := 132) [.int q1] rfl (fun _ => rfl) rfl ?_
            refine dg_s (pc' := 133) [.ref x0, .int q1] rfl (fun _ => rfl) rfl ?_
            refine dg_s (pc' := 136) [.int ((dc_wi m (x0 + 18) (Int32.toNatClampNeg (((16 : Int32) * x1) + x2)) (-4 : Int32)).1 x0 32), .int q1] rfl (fun _ => rfl) rfl ?_
            refine dw_if (fun t => Φ (Option.bind t (dc_bk (d_X10_layStates_l32s x0 x1)))) (¬ (Int32.toInt q1) = (Int32.toInt ((dc_wi m (x0 + 18) (Int32.toNatClampNeg (((16 : Int32) * x1) + x2)) (-4 : Int32)).1 x0 32))) [] 157 139 rfl (fun _ => rfl) (fun c4 => ?_) (fun c4 => ?_)
            · refine dw_g rfl ?_
              refine dg_s (pc' := 158) [.ref x0] rfl (fun _ => rfl) rfl ?_
              refine dg_s (pc' := 161) [.ref (x0 + 18)] rfl (fun _ => rfl) rfl ?_
              refine dg_s (pc' := 163) [.int (16 : Int32), .ref (x0 + 18)] rfl (fun _ => rfl) rfl ?_
              refine dg_s (pc' := 164) [.int x1, .int (16 : Int32), .ref (x0 + 18)] rfl (fun _ => rfl) rfl ?_
              refine dg_s (pc' := 165) [.int ((16 : Int32) * x1), .ref (x0 + 18)] rfl (fun _ => rfl) rfl ?_
              refine dg_s (pc' := 166) [.int x2, .int ((16 : Int32) * x1), .ref (x0 + 18)] rfl (fun _ => rfl) rfl ?_
              refine dg_s (pc' := 167) [.int (((16 : Int32) * x1) + x2), .ref (x0 + 18)] rfl (fun _ => rfl) rfl ?_
              refine dg_s (pc' := 169) [.int q1, .int (((16 : Int32) * x1) + x2), .ref (x0 + 18)] rfl (fun _ => rfl) rfl ?_
              refine dg_m (pc' := 170) (dc_wi (dc_wi m (x0 + 18) (Int32.toNatClampNeg (((16 : Int32) * x1) + x2)) (-4 : Int32)) (x0 + 18) (Int32.toNatClampNeg (((16 : Int32) * x1) + x2)) q1) [] rfl (fun _ => rfl) rfl ?_
              refine dg_L (pc' := 173) [(2, .int (x2 + (1 : Int32))), (4, .int q1), (3, .int (d_X10_after x0 x2 ((dc_wi m (x0 + 18) (Int32.toNatClampNeg (((16 : Int32) * x1) + x2)) (-4 : Int32)).1 (x0 + 17) (Int32.toNatClampNeg x1)) (dc_wi m (x0 + 18) (Int32.toNatClampNeg (((16 : Int32) * x1) + x2)) (-4 : Int32)))), (0, .ref x0), (1, .int x1)] [] rfl (fun _ => rfl) rfl ?_
              refine dw_s (pc' := 32) [] rfl (fun _ => rfl) ?_
              exact dw_j rfl (fun lv1 hv => ih (x2 + (1 : Int32)) (dc_wi (dc_wi m (x0 + 18) (Int32.toNatClampNeg (((16 : Int32) * x1) + x2)) (-4 : Int32)) (x0 + 18) (Int32.toNatClampNeg (((16 : Int32) * x1) + x2)) q1) lv1 (hv.1 _ rfl) (hv.2.1 _ rfl) (hv.2.2.1 _ rfl))
            · refine dw_g rfl ?_
              refine dg_s (pc' := 140) [.ref x0] rfl (fun _ => rfl) rfl ?_
              refine dg_s (pc' := 143) [.ref (x0 + 17)] rfl (fun _ => rfl) rfl ?_
              refine dg_s (pc' := 145) [.int q1, .ref (x0 + 17)] rfl (fun _ => rfl) rfl ?_
              refine dg_s (pc' := 146) [.int (d_X10_after x0 x2 ((dc_wi m (x0 + 18) (Int32.toNatClampNeg (((16 : Int32) * x1) + x2)) (-4 : Int32)).1 (x0 + 17) (Int32.toNatClampNeg x1)) (dc_wi m (x0 + 18) (Int32.toNatClampNeg (((16 : Int32) * x1) + x2)) (-4 : Int32))), .int q1, .ref (x0 + 17)] rfl (fun _ => rfl) rfl ?_
              refine dg_m (pc' := 147) (dc_wi (dc_wi m (x0 + 18) (Int32.toNatClampNeg (((16 : Int32) * x1) + x2)) (-4 : Int32)) (x0 + 17) (Int32.toNatClampNeg q1) (d_X10_after x0 x2 ((dc_wi m (x0 + 18) (Int32.toNatClampNeg (((16 : Int32) * x1) + x2)) (-4 : Int32)).1 (x0 + 17) (Int32.toNatClampNeg x1)) (dc_wi m (x0 + 18) (Int32.toNatClampNeg (((16 : Int32) * x1) + x2)) (-4 : Int32)))) [] rfl (fun _ => rfl) rfl ?_
              refine dg_s (pc' := 148) [.ref x0] rfl (fun _ => rfl) rfl ?_
              refine dg_s (pc' := 149) [.ref x0, .ref x0] rfl (fun _ => rfl) rfl ?_
              refine dg_s (pc' := 152) [.int ((dc_wi (dc_wi m (x0 + 18) (Int32.toNatClampNeg (((16 : Int32) * x1) + x2)) (-4 : Int32)) (x0 + 17) (Int32.toNatClampNeg q1) (d_X10_after x0 x2 ((dc_wi m (x0 + 18) (Int32.toNatClampNeg (((16 : Int32) * x1) + x2)) (-4 : Int32)).1 (x0 + 17) (Int32.toNatClampNeg x1)) (dc_wi m (x0 + 18) (Int32.toNatClampNeg (((16 : Int32) * x1) + x2)) (-4 : Int32)))).1 x0 32), .ref x0] rfl (fun _ => rfl) rfl ?_
              refine dg_s (pc' := 153) [.int (1 : Int32), .int ((dc_wi (dc_wi m (x0 + 18) (Int32.toNatClampNeg (((16 : Int32) * x1) + x2)) (-4 : Int32)) (x0 + 17) (Int32.toNatClampNeg q1) (d_X10_after x0 x2 ((dc_wi m (x0 + 18) (Int32.toNatClampNeg (((16 : Int32) * x1) + x2)) (-4 : Int32)).1 (x0 + 17) (Int32.toNatClampNeg x1)) (dc_wi m (x0 + 18) (Int32.toNatClampNeg (((16 : Int32) * x1) + x2)) (-4 : Int32)))).1 x0 32), .ref x0] rfl (fun _ => rfl) rfl ?_
              refine dg_s (pc' := 154) [.int (((dc_wi (dc_wi m (x0 + 18) (Int32.toNatClampNeg (((16 : Int32) * x1) + x2)) (-4 : Int32)) (x0 + 17) (Int32.toNatClampNeg q1) (d_X10_after x0 x2 ((dc_wi m (x0 + 18) (Int32.toNatClampNeg (((16 : Int32) * x1) + x2)) (-4 : Int32)).1 (x0 + 17) (Int32.toNatClampNeg x1)) (dc_wi m (x0 + 18) (Int32.toNatClampNeg (((16 : Int32) * x1) + x2)) (-4 : Int32)))).1 x0 32) + (1 : Int32)), .ref x0] rfl (fun _ => rfl) rfl ?_
              refine dg_m (pc' := 157) (dc_wi (dc_wi (dc_wi m (x0 + 18) (Int32.toNatClampNeg (((16 : Int32) * x1) + x2)) (-4 : Int32)) (x0 + 17) (Int32.toNatClampNeg q1) (d_X10_after x0 x2 ((dc_wi m (x0 + 18) (Int32.toNatClampNeg (((16 : Int32) * x1) + x2)) (-4 : Int32)).1 (x0 + 17) (Int32.toNatClampNeg x1)) (dc_wi m (x0 + 18) (Int32.toNatClampNeg (((16 : Int32) * x1) + x2)) (-4 : Int32)))) x0 32 (((dc_wi (dc_wi m (x0 + 18) (Int32.toNatClampNeg (((16 : Int32) * x1) + x2)) (-4 : Int32)) (x0 + 17) (Int32.toNatClampNeg q1) (d_X10_after x0 x2 ((dc_wi m (x0 + 18) (Int32.toNatClampNeg (((16 : Int32) * x1) + x2)) (-4 : Int32)).1 (x0 + 17) (Int32.toNatClampNeg x1)) (dc_wi m (x0 + 18) (Int32.toNatClampNeg (((16 : Int32) * x1) + x2)) (-4 : Int32)))).1 x0 32) + (1 : Int32))) [] rfl (fun _ => rfl) rfl ?_
              refine dg_s (pc' := 158) [.ref x0] rfl (fun _ => rfl) rfl ?_
              refine dg_s (pc' := 161) [.ref (x0 + 18)] rfl (fun _ => rfl) rfl ?_
              refine dg_s (pc' := 163) [.int (16 : Int32), .ref (x0 + 18)] rfl (fun _ => rfl) rfl ?_
              refine dg_s (pc' := 164) [.int x1, .int (16 : Int32), .ref (x0 + 18)] rfl (fun _ => rfl) rfl ?_
              refine dg_s (pc' := 165) [.int ((16 : Int32) * x1), .ref (x0 + 18)] rfl (fun _ => rfl) rfl ?_
              refine dg_s (pc' := 166) [.int x2, .int ((16 : Int32) * x1), .ref (x0 + 18)] rfl (fun _ => rfl) rfl ?_
              refine dg_s (pc' := 167) [.int (((16 : Int32) * x1) + x2), .ref (x0 + 18)] rfl (fun _ => rfl) rfl ?_
              refine dg_s (pc' := 169) [.int q1, .int (((16 : Int32) * x1) + x2), .ref (x0 + 18)] rfl (fun _ => rfl) rfl ?_
              refine dg_m (pc' := 170) (dc_wi (dc_wi (dc_wi (dc_wi m (x0 + 18) (Int32.toNatClampNeg (((16 : Int32) * x1) + x2)) (-4 : Int32)) (x0 + 17) (Int32.toNatClampNeg q1) (d_X10_after x0 x2 ((dc_wi m (x0 + 18) (Int32.toNatClampNeg (((16 : Int32) * x1) + x2)) (-4 : Int32)).1 (x0 + 17) (Int32.toNatClampNeg x1)) (dc_wi m (x0 + 18) (Int32.toNatClampNeg (((16 : Int32) * x1) + x2)) (-4 : Int32)))) x0 32 (((dc_wi (dc_wi m (x0 + 18) (Int32.toNatClampNeg (((16 : Int32) * x1) + x2)) (-4 : Int32)) (x0 + 17) (Int32.toNatClampNeg q1) (d_X10_after x0 x2 ((dc_wi m (x0 + 18) (Int32.toNatClampNeg (((16 : Int32) * x1) + x2)) (-4 : Int32)).1 (x0 + 17) (Int32.toNatClampNeg x1)) (dc_wi m (x0 + 18) (Int32.toNatClampNeg (((16 : Int32) * x1) + x2)) (-4 : Int32)))).1 x0 32) + (1 : Int32))) (x0 + 18) (Int32.toNatClampNeg (((16 : Int32) * x1) + x2)) q1) [] rfl (fun _ => rfl) rfl ?_
              refine dg_L (pc' := 173) [(2, .int (x2 + (1 : Int32))), (4, .int q1), (3, .int (d_X10_after x0 x2 ((dc_wi m (x0 + 18) (Int32.toNatClampNeg (((16 : Int32) * x1) + x2)) (-4 : Int32)).1 (x0 + 17) (Int32.toNatClampNeg x1)) (dc_wi m (x0 + 18) (Int32.toNatClampNeg (((16 : Int32) * x1) + x2)) (-4 : Int32)))), (0, .ref x0), (1, .int x1)] [] rfl (fun _ => rfl) rfl ?_
              refine dw_s (pc' := 32) [] rfl (fun _ => rfl) ?_
              exact dw_j rfl (fun lv1 hv => ih (x2 + (1 : Int32)) (dc_wi (dc_wi (dc_wi (dc_wi m (x0 + 18) (Int32.toNatClampNeg (((16 : Int32) * x1) + x2)) (-4 : Int32)) (x0 + 17) (Int32.toNatClampNeg q1) (d_X10_after x0 x2 ((dc_wi m (x0 + 18) (Int32.toNatClampNeg (((16 : Int32) * x1) + x2)) (-4 : Int32)).1 (x0 + 17) (Int32.toNatClampNeg x1)) (dc_wi m (x0 + 18) (Int32.toNatClampNeg (((16 : Int32) * x1) + x2)) (-4 : Int32)))) x0 32 (((dc_wi (dc_wi m (x0 + 18) (Int32.toNatClampNeg (((16 : Int32) * x1) + x2)) (-4 : Int32)) (x0 + 17) (Int32.toNatClampNeg q1) (d_X10_after x0 x2 ((dc_wi m (x0 + 18) (Int32.toNatClampNeg (((16 : Int32) * x1) + x2)) (-4 : Int32)).1 (x0 + 17) (Int32.toNatClampNeg x1)) (dc_wi m (x0 + 18) (Int32.toNatClampNeg (((16 : Int32) * x1) + x2)) (-4 : Int32)))).1 x0 32) + (1 : Int32))) (x0 + 18) (Int32.toNatClampNeg (((16 : Int32) * x1) + x2)) q1) lv1 (hv.1 _ rfl) (hv.2.1 _ rfl) (hv.2.2.1 _ rfl))
          · refine dw_g rfl ?_
            refine dg_s (pc' := 120) [.ref x0] rfl (fun _ => rfl) rfl ?_
            refine dg_s (pc' := 122) [.int (-6 : Int32), .ref x0] rfl (fun _ => rfl) rfl ?_
            refine dg_m (pc' := 125) (dc_wi (dc_wi m (x0 + 18) (Int32.toNatClampNeg (((16 : Int32) * x1) + x2)) (-4 : Int32)) x0 33 (-6 : Int32)) [] rfl (fun _ => rfl) rfl ?_
            refine dg_s (pc' := 126) [.ref x0] rfl (fun _ => rfl) rfl ?_
            refine dg_s (pc' := 129) [.int ((dc_wi (dc_wi m (x0 + 18) (Int32.toNatClampNeg (((16 : Int32) * x1) + x2)) (-4 : Int32)) x0 33 (-6 : Int32)).1 x0 33)] rfl (fun _ => rfl) rfl ?_
            exact dw_r (some (.inl (some (.int ((dc_wi (dc_wi m (x0 + 18) (Int32.toNatClampNeg (((16 : Int32) * x1) + x2)) (-4 : Int32)) x0 33 (-6 : Int32)).1 x0 33)), (dc_wi (dc_wi m (x0 + 18) (Int32.toNatClampNeg (((16 : Int32) * x1) + x2)) (-4 : Int32)) x0 33 (-6 : Int32))))) rfl (fun _ => rfl) (kR _ _)
        · refine dw_g rfl ?_
          refine dg_s (pc' := 82) [.ref x0] rfl (fun _ => rfl) rfl ?_
          refine dg_s (pc' := 84) [.int (-2 : Int32), .ref x0] rfl (fun _ => rfl) rfl ?_
          refine dg_m (pc' := 87) (dc_wi (dc_wi m (x0 + 18) (Int32.toNatClampNeg (((16 : Int32) * x1) + x2)) (-4 : Int32)) x0 33 (-2 : Int32)) [] rfl (fun _ => rfl) rfl ?_
          refine dg_s (pc' := 88) [.ref x0] rfl (fun _ => rfl) rfl ?_
          refine dg_s (pc' := 91) [.int ((dc_wi (dc_wi m (x0 + 18) (Int32.toNatClampNeg (((16 : Int32) * x1) + x2)) (-4 : Int32)) x0 33 (-2 : Int32)).1 x0 33)] rfl (fun _ => rfl) rfl ?_
          exact dw_r (some (.inl (some (.int ((dc_wi (dc_wi m (x0 + 18) (Int32.toNatClampNeg (((16 : Int32) * x1) + x2)) (-4 : Int32)) x0 33 (-2 : Int32)).1 x0 33)), (dc_wi (dc_wi m (x0 + 18) (Int32.toNatClampNeg (((16 : Int32) * x1) + x2)) (-4 : Int32)) x0 33 (-2 : Int32))))) rfl (fun _ => rfl) (kR _ _)
noncomputable def d_X10_layStates_l22b (x0 : Nat) (x1 : Int32) (m : dc_M) : Option ((Int32 × dc_M) ⊕ (Int32 × dc_M)) :=
  (if (Int32.toInt (m.1 x0 32)) ≤ (Int32.toInt x1) then some (Sum.inr (((m.1 x0 33), m))) else (d_X10_layStates_l32 x0 x1 (0 : Int32) m))
noncomputable def d_X10_layStates_l22s (x0 : Nat) : (Int32 × dc_M) → Option ((Int32 × dc_M) ⊕ (Int32 × dc_M)) := fun s => d_X10_layStates_l22b x0 s.1 s.2
noncomputable def d_X10_layStates_l22 (x0 : Nat) (x1 : Int32) (m : dc_M) : Option (Int32 × dc_M) := dc_lp (d_X10_layStates_l22s x0) (x1, m)
set_option maxHeartbeats 8000000 in
theorem k_X10_layStates_l22 {u : Nat} {Φ : (Option (Int32 × dc_M)) → Option Value → dc_M → Prop} (x0 : Nat) (kR : ∀ (v : Int32) (m : dc_M), Φ (some ((v, m))) (some (.int v)) m) : ∀ (N : Nat), ∀ (x1 : Int32) (m : dc_M) (lv : ab_L), ab_lk lv 0 = some (.ref x0) → ab_lk lv 1 = some (.int x1) → dc_pv u N ab_M_X10_layStates 22 lv [] m (Φ (d_X10_layStates_l22 x0 x1 m)) := by
  intro N
  induction N with
  | zero => intros; exact dc_pv_zero
  | succ N ih =>
    intro x1 m lv f0 f1
    refine dc_ok (C := C_X10_layStates) (S := S_X10_layStates) CO_X10_layStates 400 22 [(0, .ref x0), (1, .int x1)] lv [] m (dc_sub_cons f0 (dc_sub_cons f1 (dc_sub_nil))) ?_
    unfold d_X10_layStates_l22
    rw [dc_lp_eq]
    show (fun t x => dc_lf u N ab_M_X10_layStates (Φ (Option.bind t (dc_bk (d_X10_layStates_l22s x0)))) x) (d_X10_layStates_l22b x0 x1 m) _
    dsimp only
    unfold d_X10_layStates_l22b
    refine dg_s (pc' := 23) [.int x1] rfl (fun _ => rfl) rfl ?_
    refine dg_s (pc' := 24) [.ref x0, .int x1] rfl (fun _ => rfl) rfl ?_
    refine dg_s (pc' := 27) [.int (m.1 x0 32), .int x1] rfl (fun _ => rfl) rfl ?_
    refine dw_if (fun t => Φ (Option.bind t (dc_bk (d_X10_layStates_l22s x0)))) ((Int32.toInt (m.1 x0 32)) ≤ (Int32.toInt x1)) [] 182 30 rfl (fun _ => rfl) (fun c0 => ?_) (fun c0 => ?_)
    · refine dw_g rfl ?_
      refine dg_s (pc' := 183) [.ref x0] rfl (fun _ => rfl) rfl ?_
      refine dg_s (pc' := 186) [.int (m.1 x0 33)] rfl (fun _ => rfl) rfl ?_
      exact dw_r (some (.inl (some (.int (m.1 x0 33)), m))) rfl (fun _ => rfl) (kR _ _)
    · refine dw_g rfl ?_
      refine dg_s (pc' := 31) [.int (0 : Int32)] rfl (fun _ => rfl) rfl ?_
      refine dw_L (pc' := 32) [(2, .int (0 : Int32)), (0, .ref x0), (1, .int x1)] [] rfl (fun _ => rfl) ?_
      exact dw_j rfl (fun lv1 hv => k_X10_layStates_l32 (Φ := (fun t => Φ (Option.bind t (dc_bk (d_X10_layStates_l22s x0))))) x0 x1 (fun _a _b => kR _a _b) N ih (0 : Int32) m lv1 (hv.1 _ rfl) (hv.2.1 _ rfl) (hv.2.2.1 _ rfl))
noncomputable def d_X10_layStates (x0 : Nat) (m : dc_M) : Option (Int32 × dc_M) :=
  (d_X10_layStates_l22 x0 (0 : Int32) (dc_wi (dc_wi (dc_wi m (x0 + 17) (Int32.toNatClampNeg (0 : Int32)) (m.1 x0 11)) x0 32 (1 : Int32)) x0 33 (1 : Int32)))
set_option maxHeartbeats 8000000 in
theorem k_X10_layStates {u : Nat} {N : Nat} {Φ : (Option (Int32 × dc_M)) → Option Value → dc_M → Prop} (x0 : Nat) (m : dc_M) (kR : ∀ (v : Int32) (m : dc_M), Φ (some ((v, m))) (some (.int v)) m)  {lv : ab_L} (f0 : ab_lk lv 0 = some (.ref x0)) : dc_pv u N ab_M_X10_layStates 0 lv [] m (Φ (d_X10_layStates x0 m)) := by
  refine dc_pv.mono (dc_ok (C := C_X10_layStates) (S := S_X10_layStates) CO_X10_layStates 400 0 [(0, .ref x0)] lv [] m (dc_sub_cons f0 (dc_sub_nil)) ?_) (Nat.le_succ N)
  unfold d_X10_layStates
  refine dg_s (pc' := 1) [.ref x0] rfl (fun _ => rfl) rfl ?_
  refine dg_s (pc' := 4) [.ref (x0 + 17)] rfl (fun _ => rfl) rfl ?_
  refine dg_s (pc' := 5) [.int (0 : Int32), .ref (x0 + 17)] rfl (fun _ => rfl) rfl ?_
  refine dg_s (pc' := 6) [.ref x0, .int (0 : Int32), .ref (x0 + 17)] rfl (fun _ => rfl) rfl ?_
  refine dg_s (pc' := 9) [.int (m.1 x0 11), .int (0 : Int32), .ref (x0 + 17)] rfl (fun _ => rfl) rfl ?_
  refine dg_m (pc' := 10) (dc_wi m (x0 + 17) (Int32.toNatClampNeg (0 : Int32)) (m.1 x0 11)) [] rfl (fun _ => rfl) rfl ?_
  refine dg_s (pc' := 11) [.ref x0] rfl (fun _ => rfl) rfl ?_
  refine dg_s (pc' := 12) [.int (1 : Int32), .ref x0] rfl (fun _ => rfl) rfl ?_
  refine dg_m (pc' := 15) (dc_wi (dc_wi m (x0 + 17) (Int32.toNatClampNeg (0 : Int32)) (m.1 x0 11)) x0 32 (1 : Int32)) [] rfl (fun _ => rfl) rfl ?_
  refine dg_s (pc' := 16) [.ref x0] rfl (fun _ => rfl) rfl ?_
  refine dg_s (pc' := 17) [.int (1 : Int32), .ref x0] rfl (fun _ => rfl) rfl ?_
  refine dg_m (pc' := 20) (dc_wi (dc_wi (dc_wi m (x0 + 17) (Int32.toNatClampNeg (0 : Int32)) (m.1 x0 11)) x0 32 (1 : Int32)) x0 33 (1 : Int32)) [] rfl (fun _ => rfl) rfl ?_
  refine dg_s (pc' := 21) [.int (0 : Int32)] rfl (fun _ => rfl) rfl ?_
  refine dw_L (pc' := 22) [(1, .int (0 : Int32)), (0, .ref x0)] [] rfl (fun _ => rfl) ?_
  exact dw_j rfl (fun lv1 hv => k_X10_layStates_l22 (Φ := (fun t => Φ t)) x0 (fun _a _b => kR _a _b) N  (0 : Int32) (dc_wi (dc_wi (dc_wi m (x0 + 17) (Int32.toNatClampNeg (0 : Int32)) (m.1 x0 11)) x0 32 (1 : Int32)) x0 33 (1 : Int32)) lv1 (hv.1 _ rfl) (hv.2.1 _ rfl))
noncomputable def H_X10_layStates : dc_H := fun As m k => match As with
  | [.ref x0] => (d_X10_layStates x0 m).bind (fun q => k (some (.int q.1)) q.2)
  | _ => dc_kz
theorem H_X10_layStates_ok {u : Nat} : dc_cok u 173 H_X10_layStates := fun M' hG N As m k P hz hP => by
  obtain rfl : ab_M_X10_layStates = M' := Option.some.inj hG
  unfold H_X10_layStates at hP
  split at hP
  · rename_i x0
    exact dc_pv.imp (k_X10_layStates (Φ := fun (t : Option (Int32 × dc_M)) r m' => P (t.bind (fun q => k (some (.int q.1)) q.2)) → P (k r m')) x0 m (fun _ _ h => h) rfl) (fun r m' h => h hP)
  · exact absurd hP hz
