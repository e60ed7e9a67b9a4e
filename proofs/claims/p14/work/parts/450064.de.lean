/-! ===== methods as functions (written by a program) ===== -/
def C_X9_event : List (Nat × dc_H) := [(26, H_X3_hasEvent)]
theorem CO_X9_event {u : Nat} : dc_CO u C_X9_event := dc_CO_cons H_X3_hasEvent_ok (dc_CO_nil)
def S_X9_event : List (Nat × List Nat) := []
def d_X9_event (x0 : Nat) (x1 : Int32) (x2 : Int32) (m : dc_M) : Int32 :=
  (if ¬ (Int32.toInt (d_X3_hasEvent (m.2.2.1 x0 7) x1 m)) = 0 then (if (Int32.toInt x2) = 0 then (m.1 ((m.2.2.1 x0 7) + 3) (Int32.toNatClampNeg x1)) else (if (Int32.toInt x2) = 1 then (m.1 ((m.2.2.1 x0 7) + 4) (Int32.toNatClampNeg x1)) else (if (Int32.toInt x2) = 2 then (m.1 ((m.2.2.1 x0 7) + 5) (Int32.toNatClampNeg x1)) else (if (Int32.toInt x2) = 3 then (m.1 ((m.2.2.1 x0 7) + 6) (Int32.toNatClampNeg x1)) else (if (Int32.toInt x2) = 4 then (m.1 ((m.2.2.1 x0 7) + 7) (Int32.toNatClampNeg x1)) else (if (Int32.toInt x2) = 5 then (m.1 ((m.2.2.1 x0 7) + 8) (Int32.toNatClampNeg x1)) else (-1 : Int32))))))) else (-1 : Int32))
set_option maxHeartbeats 8000000 in
theorem k_X9_event {u : Nat} {N : Nat} {Φ : Int32 → Option Value → dc_M → Prop} (x0 : Nat) (x1 : Int32) (x2 : Int32) (m : dc_M) (kR : ∀ (v : Int32), Φ (v) (some (.int v)) m)  {lv : ab_L} (f0 : ab_lk lv 0 = some (.ref x0)) (f1 : ab_lk lv 1 = some (.int x1)) (f2 : ab_lk lv 2 = some (.int x2)) : dc_pv u N ab_M_X9_event 0 lv [] m (Φ (d_X9_event x0 x1 x2 m)) := by
  refine dc_pv.mono (dc_ok (C := C_X9_event) (S := S_X9_event) CO_X9_event 400 0 [(0, .ref x0), (1, .int x1), (2, .int x2)] lv [] m (dc_sub_cons f0 (dc_sub_cons f1 (dc_sub_cons f2 (dc_sub_nil)))) ?_) (Nat.le_succ N)
  unfold d_X9_event
  refine dg_s (pc' := 1) [.ref x0] rfl (fun _ => rfl) rfl ?_
  refine dg_s (pc' := 4) [.ref (m.2.2.1 x0 7)] rfl (fun _ => rfl) rfl ?_
  refine dg_s (pc' := 5) [.int x1, .ref (m.2.2.1 x0 7)] rfl (fun _ => rfl) rfl ?_
  refine dg_s (pc' := 8) [.int (d_X3_hasEvent (m.2.2.1 x0 7) x1 m)] rfl (fun _ => rfl) rfl ?_
  refine dw_if (fun t => Φ t) (¬ (Int32.toInt (d_X3_hasEvent (m.2.2.1 x0 7) x1 m)) = 0) [] 13 11 rfl (fun _ => rfl) (fun c0 => ?_) (fun c0 => ?_)
  · refine dw_g rfl ?_
    refine dg_s (pc' := 14) [.int x2] rfl (fun _ => rfl) rfl ?_
    refine dw_sw (fun t => Φ t) ((Int32.toInt x2)) 112 [(0, 52), (1, 62), (2, 72), (3, 82), (4, 92), (5, 102)] [] rfl (fun _ => rfl) ?_
    refine dw_ts (fun t => Φ t) (fun c1 => ?_) (fun c1 => ?_)
    · refine dw_g rfl ?_
      refine dg_s (pc' := 53) [.ref x0] rfl (fun _ => rfl) rfl ?_
      refine dg_s (pc' := 56) [.ref (m.2.2.1 x0 7)] rfl (fun _ => rfl) rfl ?_
      refine dg_s (pc' := 59) [.ref ((m.2.2.1 x0 7) + 3)] rfl (fun _ => rfl) rfl ?_
      refine dg_s (pc' := 60) [.int x1, .ref ((m.2.2.1 x0 7) + 3)] rfl (fun _ => rfl) rfl ?_
      refine dg_s (pc' := 61) [.int (m.1 ((m.2.2.1 x0 7) + 3) (Int32.toNatClampNeg x1))] rfl (fun _ => rfl) rfl ?_
      exact dw_r (some (.inl (some (.int (m.1 ((m.2.2.1 x0 7) + 3) (Int32.toNatClampNeg x1))), m))) rfl (fun _ => rfl) (kR _)
    refine dw_ts (fun t => Φ t) (fun c2 => ?_) (fun c2 => ?_)
    · refine dw_g rfl ?_
      refine dg_s (pc' := 63) [.ref x0] rfl (fun _ => rfl) rfl ?_
      refine dg_s (pc' := 66) [.ref (m.2.2.1 x0 7)] rfl (fun _ => rfl) rfl ?_
      refine dg_s (pc' := 69) [.ref ((m.2.2.1 x0 7) + 4)] rfl (fun _ => rfl) rfl ?_
      refine dg_s (pc' := 70) [.int x1, .ref ((m.2.2.1 x0 7) + 4)] rfl (fun _ => rfl) rfl ?_
      refine dg_s (pc' := 71) [.int (m.1 ((m.2.2.1 x0 7) + 4) (Int32.toNatClampNeg x1))] rfl (fun _ => rfl) rfl ?_
      exact dw_r (some (.inl (some (.int (m.1 ((m.2.2.1 x0 7) + 4) (Int32.toNatClampNeg x1))), m))) rfl (fun _ => rfl) (kR _)
    refine dw_ts (fun t => Φ t) (fun c3 => ?_) (fun c3 => ?_)
    · refine dw_g rfl ?_
      refine dg_s (pc' := 73) [.ref x0] rfl (fun _ => rfl) rfl ?_
      refine dg_s (pc' := 76) [.ref (m.2.2.1 x0 7)] rfl (fun _ => rfl) rfl ?_
      refine dg_s (pc' := 79) [.ref ((m.2.2.1 x0 7) + 5)] rfl (fun _ => rfl) rfl ?_
      refine dg_s (pc' := 80) [.int x1, .ref ((m.2.2.1 x0 7) + 5)] rfl (fun _ => rfl) rfl ?_
      refine dg_s (pc' := 81) [.int (m.1 ((m.2.2.1 x0 7) + 5) (Int32.toNatClampNeg x1))] rfl (fun _ => rfl) rfl ?_
      exact dw_r (some (.inl (some (.int (m.1 ((m.2.2.1 x0 7) + 5) (Int32.toNatClampNeg x1))), m))) rfl (fun _ => rfl) (kR _)
    refine dw_ts (fun t => Φ t) (fun c4 => ?_) (fun c4 => ?_)
    · refine dw_g rfl ?_
      refine dg_s (pc' := 83) [.ref x0] rfl (fun _ => rfl) rfl ?_
      refine dg_s (pc' := 86) [.ref (m.2.2.1 x0 7)] rfl (fun _ => rfl) rfl ?_
      refine dg_s (pc' := 89) [.ref ((m.2.2.1 x0 7) + 6)] rfl (fun _ => rfl) rfl ?_
      refine dg_s (pc' := 90) [.int x1, .ref ((m.2.2.1 x0 7) + 6)] rfl (fun _ => rfl) rfl ?_
      refine dg_s (pc' := 91) [.int (m.1 ((m.2.2.1 x0 7) + 6) (Int32.toNatClampNeg x1))] rfl (fun _ => rfl) rfl ?_
      exact dw_r (some (.inl (some (.int (m.1 ((m.2.2.1 x0 7) + 6) (Int32.toNatClampNeg x1))), m))) rfl (fun _ => rfl) (kR _)
    refine dw_ts (fun t => Φ t) (fun c5 => ?_) (fun c5 => ?_)
    · refine dw_g rfl ?_
      refine dg_s (pc' := 93) [.ref x0] rfl (fun _ => rfl) rfl ?_
      refine dg_s (pc' := 96) [.ref (m.2.2.1 x0 7)] rfl (fun _ => rfl) rfl ?_
      refine dg_s (pc' := 99) [.ref ((m.2.2.1 x0 7) + 7)] rfl (fun _ => rfl) rfl ?_
      refine dg_s (pc' := 100) [.int x1, .ref ((m.2.2.1 x0 7) + 7)] rfl (fun _ => rfl) rfl ?_
      refine dg_s (pc' := 101) [.int (m.1 ((m.2.2.1 x0 7) + 7) (Int32.toNatClampNeg x1))] rfl (fun _ => rfl) rfl ?_
      exact dw_r (some (.inl (some (.int (m.1 ((m.2.2.1 x0 7) + 7) (Int32.toNatClampNeg x1))), m))) rfl (fun _ => rfl) (kR _)
    refine dw_ts (fun t => Φ t) (fun c6 => ?_) (fun c6 => ?_)
    · refine dw_g rfl ?_
      refine dg_s (pc' := 103) [.ref x0] rfl (fun _ => rfl) rfl ?_
      refine dg_s (pc' := 106) [.ref (m.2.2.1 x0 7)] rfl (fun _ => rfl) rfl ?_
      refine dg_s (pc' := 109) [.ref ((m.2.2.1 x0 7) + 8)] rfl (fun _ => rfl) rfl ?_
      refine dg_s (pc' := 110) [.int x1, .ref ((m.2.2.1 x0 7) + 8)] rfl (fun _ => rfl) rfl ?_
      refine dg_s (pc' := 111) [.int (m.1 ((m.2.2.1 x0 7) + 8) (Int32.toNatClampNeg x1))] rfl (fun _ => rfl) rfl ?_
      exact dw_r (some (.inl (some (.int (m.1 ((m.2.2.1 x0 7) + 8) (Int32.toNatClampNeg x1))), m))) rfl (fun _ => rfl) (kR _)
    refine dw_t0 ?_
    refine dw_g rfl ?_
    refine dg_s (pc' := 113) [.int (-1 : Int32)] rfl (fun _ => rfl) rfl ?_
    exact dw_r (some (.inl (some (.int (-1 : Int32)), m))) rfl (fun _ => rfl) (kR _)
  · refine dw_g rfl ?_
    refine dg_s (pc' := 12) [.int (-1 : Int32)] rfl (fun _ => rfl) rfl ?_
    exact dw_r (some (.inl (some (.int (-1 : Int32)), m))) rfl (fun _ => rfl) (kR _)
def H_X9_event : dc_H := fun As m k => match As with
  | [.ref x0, .int x1, .int x2] => k (some (.int (d_X9_event x0 x1 x2 m))) m
  | _ => dc_kz
theorem H_X9_event_ok {u : Nat} : dc_cok u 106 H_X9_event := fun M' hG N As m k P hz hP => by
  obtain rfl : ab_M_X9_event = M' := Option.some.inj hG
  unfold H_X9_event at hP
  split at hP
  · rename_i x0 x1 x2
    exact dc_pv.imp (k_X9_event (Φ := fun (t : Int32) r m' => P (k (some (.int t)) m) → P (k r m')) x0 x1 x2 m (fun _  h => h) rfl rfl rfl) (fun r m' h => h hP)
  · exact absurd hP hz
def C_X10_event : List (Nat × dc_H) := [(163, H_X10_isEvent)]
theorem CO_X10_event {u : Nat} : dc_CO u C_X10_event := dc_CO_cons H_X10_isEvent_ok (dc_CO_nil)
def S_X10_event : List (Nat × List Nat) := []
def d_X10_event (x0 : Nat) (x1 : Int32) (x2 : Int32) (m : dc_M) : Int32 :=
  (if ¬ (Int32.toInt (d_X10_isEvent x0 x1 m)) = 0 then (if (Int32.toInt x2) = 0 then (m.1 (x0 + 3) (Int32.toNatClampNeg x1)) else (if (Int32.toInt x2) = 1 then (m.1 (x0 + 4) (Int32.toNatClampNeg x1)) else (if (Int32.toInt x2) = 2 then (m.1 (x0 + 5) (Int32.toNatClampNeg x1)) else (if (Int32.toInt x2) = 3 then (m.1 (x0 + 6) (Int32.toNatClampNeg x1)) else (if (Int32.toInt x2) = 4 then (m.1 (x0 + 7) (Int32.toNatClampNeg x1)) else (if (Int32.toInt x2) = 5 then (m.1 (x0 + 8) (Int32.toNatClampNeg x1)) else (-1 : Int32))))))) else (-1 : Int32))
set_option maxHeartbeats 8000000 in
theorem k_X10_event {u : Nat} {N : Nat} {Φ : Int32 → Option Value → dc_M → Prop} (x0 : Nat) (x1 : Int32) (x2 : Int32) (m : dc_M) (kR : ∀ (v : Int32), Φ (v) (some (.int v)) m)  {lv : ab_L} (f0 : ab_lk lv 0 = some (.ref x0)) (f1 : ab_lk lv 1 = some (.int x1)) (f2 : ab_lk lv 2 = some (.int x2)) : dc_pv u N ab_M_X10_event 0 lv [] m (Φ (d_X10_event x0 x1 x2 m)) := by
  refine dc_pv.mono (dc_ok (C := C_X10_event) (S := S_X10_event) CO_X10_event 400 0 [(0, .ref x0), (1, .int x1), (2, .int x2)] lv [] m (dc_sub_cons f0 (dc_sub_cons f1 (dc_sub_cons f2 (dc_sub_nil)))) ?_) (Nat.le_succ N)
  unfold d_X10_event
  refine dg_s (pc' := 1) [.ref x0] rfl (fun _ => rfl) rfl ?_
  refine dg_s (pc' := 2) [.int x1, .ref x0] rfl (fun _ => rfl) rfl ?_
  refine dg_s (pc' := 5) [.int (d_X10_isEvent x0 x1 m)] rfl (fun _ => rfl) rfl ?_
  refine dw_if (fun t => Φ t) (¬ (Int32.toInt (d_X10_isEvent x0 x1 m)) = 0) [] 10 8 rfl (fun _ => rfl) (fun c0 => ?_) (fun c0 => ?_)
  · refine dw_g rfl ?_
    refine dg_s (pc' := 11) [.int x2] rfl (fun _ => rfl) rfl ?_
    refine dw_sw (fun t => Φ t) ((Int32.toInt x2)) 90 [(0, 48), (1, 55), (2, 62), (3, 69), (4, 76), (5, 83)] [] rfl (fun _ => rfl) ?_
    refine dw_ts (fun t => Φ t) (fun c1 => ?_) (fun c1 => ?_)
    · refine dw_g rfl ?_
      refine dg_s (pc' := 49) [.ref x0] rfl (fun _ => rfl) rfl ?_
      refine dg_s (pc' := 52) [.ref (x0 + 3)] rfl (fun _ => rfl) rfl ?_
      refine dg_s (pc' := 53) [.int x1, .ref (x0 + 3)] rfl (fun _ => rfl) rfl ?_
      refine dg_s (pc' := 54) [.int (m.1 (x0 + 3) (Int32.toNatClampNeg x1))] rfl (fun _ => rfl) rfl ?_
      exact dw_r (some (.inl (some (.int (m.1 (x0 + 3) (Int32.toNatClampNeg x1))), m))) rfl (fun _ => rfl) (kR _)
    refine dw_ts (fun t => Φ t) (fun c2 => ?_) (fun c2 => ?_)
    · refine dw_g rfl ?_
      refine dg_s (pc' := 56) [.ref x0] rfl (fun _ => rfl) rfl ?_
      refine dg_s (pc' := 59) [.ref (x0 + 4)] rfl (fun _ => rfl) rfl ?_
      refine dg_s (pc' := 60) [.int x1, .ref (x0 + 4)] rfl (fun _ => rfl) rfl ?_
      refine dg_s (pc' := 61) [.int (m.1 (x0 + 4) (Int32.toNatClampNeg x1))] rfl (fun _ => rfl) rfl ?_
      exact dw_r (some (.inl (some (.int (m.1 (x0 + 4) (Int32.toNatClampNeg x1))), m))) rfl (fun _ => rfl) (kR _)
    refine dw_ts (fun t => Φ t) (fun c3 => ?_) (fun c3 => ?_)
    · refine dw_g rfl ?_
      refine dg_s (pc' := 63) [.ref x0] rfl (fun _ => rfl) rfl ?_
      refine dg_s (pc' := 66) [.ref (x0 + 5)] rfl (fun _ => rfl) rfl ?_
      refine dg_s (pc' := 67) [.int x1, .ref (x0 + 5)] rfl (fun _ => rfl) rfl ?_
      refine dg_s (pc' := 68) [.int (m.1 (x0 + 5) (Int32.toNatClampNeg x1))] rfl (fun _ => rfl) rfl ?_
      exact dw_r (some (.inl (some (.int (m.1 (x0 + 5) (Int32.toNatClampNeg x1))), m))) rfl (fun _ => rfl) (kR _)
    refine dw_ts (fun t => Φ t) (fun c4 => ?_) (fun c4 => ?_)
    · refine dw_g rfl ?_
      refine dg_s (pc' := 70) [.ref x0] rfl (fun _ => rfl) rfl ?_
      refine dg_s (pc' := 73) [.ref (x0 + 6)] rfl (fun _ => rfl) rfl ?_
      refine dg_s (pc' := 74) [.int x1, .ref (x0 + 6)] rfl (fun _ => rfl) rfl ?_
      refine dg_s (pc' := 75) [.int (m.1 (x0 + 6) (Int32.toNatClampNeg x1))] rfl (fun _ => rfl) rfl ?_
      exact dw_r (some (.inl (some (.int (m.1 (x0 + 6) (Int32.toNatClampNeg x1))), m))) rfl (fun _ => rfl) (kR _)
    refine dw_ts (fun t => Φ t) (fun c5 => ?_) (fun c5 => ?_)
    · refine dw_g rfl ?_
      refine dg_s (pc' := 77) [.ref x0] rfl (fun _ => rfl) rfl ?_
      refine dg_s (pc' := 80) [.ref (x0 + 7)] rfl (fun _ => rfl) rfl ?_
      refine dg_s (pc' := 81) [.int x1, .ref (x0 + 7)] rfl (fun _ => rfl) rfl ?_
      refine dg_s (pc' := 82) [.int (m.1 (x0 + 7) (Int32.toNatClampNeg x1))] rfl (fun _ => rfl) rfl ?_
      exact dw_r (some (.inl (some (.int (m.1 (x0 + 7) (Int32.toNatClampNeg x1))), m))) rfl (fun _ => rfl) (kR _)
    refine dw_ts (fun t => Φ t) (fun c6 => ?_) (fun c6 => ?_)
    · refine dw_g rfl ?_
      refine dg_s (pc' := 84) [.ref x0] rfl (fun _ => rfl) rfl ?_
      refine dg_s (pc' := 87) [.ref (x0 + 8)] rfl (fun _ => rfl) rfl ?_
      refine dg_s (pc' := 88) [.int x1, .ref (x0 + 8)] rfl (fun _ => rfl) rfl ?_
      refine dg_s (pc' := 89) [.int (m.1 (x0 + 8) (Int32.toNatClampNeg x1))] rfl (fun _ => rfl) rfl ?_
      exact dw_r (some (.inl (some (.int (m.1 (x0 + 8) (Int32.toNatClampNeg x1))), m))) rfl (fun _ => rfl) (kR _)
    refine dw_t0 ?_
    refine dw_g rfl ?_
    refine dg_s (pc' := 91) [.int (-1 : Int32)] rfl (fun _ => rfl) rfl ?_
    exact dw_r (some (.inl (some (.int (-1 : Int32)), m))) rfl (fun _ => rfl) (kR _)
  · refine dw_g rfl ?_
    refine dg_s (pc' := 9) [.int (-1 : Int32)] rfl (fun _ => rfl) rfl ?_
    exact dw_r (some (.inl (some (.int (-1 : Int32)), m))) rfl (fun _ => rfl) (kR _)
def H_X10_event : dc_H := fun As m k => match As with
  | [.ref x0, .int x1, .int x2] => k (some (.int (d_X10_event x0 x1 x2 m))) m
  | _ => dc_kz
theorem H_X10_event_ok {u : Nat} : dc_cok u 165 H_X10_event := fun M' hG N As m k P hz hP => by
  obtain rfl : ab_M_X10_event = M' := Option.some.inj hG
  unfold H_X10_event at hP
  split at hP
  · rename_i x0 x1 x2
    exact dc_pv.imp (k_X10_event (Φ := fun (t : Int32) r m' => P (k (some (.int t)) m) → P (k r m')) x0 x1 x2 m (fun _  h => h) rfl rfl rfl) (fun r m' h => h hP)
  · exact absurd hP hz
def C_X3_hasPlace : List (Nat × dc_H) := []
theorem CO_X3_hasPlace {u : Nat} : dc_CO u C_X3_hasPlace := dc_CO_nil
def S_X3_hasPlace : List (Nat × List Nat) := []
def d_X3_hasPlace (x0 : Nat) (x1 : Int32) (m : dc_M) : Int32 :=
  (if (Int32.toInt x1) < 0 then (0 : Int32) else (if (Int32.toInt (m.1 x0 2)) ≤ (Int32.toInt x1) then (0 : Int32) else (1 : Int32)))
set_option maxHeartbeats 8000000 in
theorem k_X3_hasPlace {u : Nat} {N : Nat} {Φ : Int32 → Option Value → dc_M → Prop} (x0 : Nat) (x1 : Int32) (m : dc_M) (kR : ∀ (v : Int32), Φ (v) (some (.int v)) m)  {lv : ab_L} (f0 : ab_lk lv 0 = some (.ref x0)) (f1 : ab_lk lv 1 = some (.int x1)) : dc_pv u N ab_M_X3_hasPlace 0 lv [] m (Φ (d_X3_hasPlace x0 x1 m)) := by
  refine dc_pv.mono (dc_ok (C := C_X3_hasPlace) (S := S_X3_hasPlace) CO_X3_hasPlace 400 0 [(0, .ref x0), (1, .int x1)] lv [] m (dc_sub_cons f0 (dc_sub_cons f1 (dc_sub_nil))) ?_) (Nat.le_succ N)
  unfold d_X3_hasPlace
  refine dg_s (pc' := 1) [.int x1] rfl (fun _ => rfl) rfl ?_
  refine dw_if (fun t => Φ t) ((Int32.toInt x1) < 0) [] 16 4 rfl (fun _ => rfl) (fun c0 => ?_) (fun c0 => ?_)
  · refine dw_g rfl ?_
    refine dg_s (pc' := 17) [.int (0 : Int32)] rfl (fun _ => rfl) rfl ?_
    exact dw_r (some (.inl (some (.int (0 : Int32)), m))) rfl (fun _ => rfl) (kR _)
  · refine dw_g rfl ?_
    refine dg_s (pc' := 5) [.int x1] rfl (fun _ => rfl) rfl ?_
    refine dg_s (pc' := 6) [.ref x0, .int x1] rfl (fun _ => rfl) rfl ?_
    refine dg_s (pc' := 9) [.int (m.1 x0 2), .int x1] rfl (fun _ => rfl) rfl ?_
    refine dw_if (fun t => Φ t) ((Int32.toInt (m.1 x0 2)) ≤ (Int32.toInt x1)) [] 16 12 rfl (fun _ => rfl) (fun c1 => ?_) (fun c1 => ?_)
    · refine dw_g rfl ?_
      refine dg_s (pc' := 17) [.int (0 : Int32)] rfl (fun _ => rfl) rfl ?_
      exact dw_r (some (.inl (some (.int (0 : Int32)), m))) rfl (fun _ => rfl) (kR _)
    · refine dw_g rfl ?_
      refine dg_s (pc' := 13) [.int (1 : Int32)] rfl (fun _ => rfl) rfl ?_
      refine dg_s (pc' := 17) [.int (1 : Int32)] rfl (fun _ => rfl) rfl ?_
      exact dw_r (some (.inl (some (.int (1 : Int32)), m))) rfl (fun _ => rfl) (kR _)
def H_X3_hasPlace : dc_H := fun As m k => match As with
  | [.ref x0, .int x1] => k (some (.int (d_X3_hasPlace x0 x1 m))) m
  | _ => dc_kz
theorem H_X3_hasPlace_ok {u : Nat} : dc_cok u 27 H_X3_hasPlace := fun M' hG N As m k P hz hP => by
  obtain rfl : ab_M_X3_hasPlace = M' := Option.some.inj hG
  unfold H_X3_hasPlace at hP
  split at hP
  · rename_i x0 x1
    exact dc_pv.imp (k_X3_hasPlace (Φ := fun (t : Int32) r m' => P (k (some (.int t)) m) → P (k r m')) x0 x1 m (fun _  h => h) rfl rfl) (fun r m' h => h hP)
  · exact absurd hP hz
def C_X9_place : List (Nat × dc_H) := [(27, H_X3_hasPlace)]
theorem CO_X9_place {u : Nat} : dc_CO u C_X9_place := dc_CO_cons H_X3_hasPlace_ok (dc_CO_nil)
def S_X9_place : List (Nat × List Nat) := []
def d_X9_place (x0 : Nat) (x1 : Int32) (x2 : Int32) (m : dc_M) : Int32 :=
  (if ¬ (Int32.toInt (d_X3_hasPlace (m.2.2.1 x0 7) x1 m)) = 0 then (if (Int32.toInt x2) = 0 then (m.1 ((m.2.2.1 x0 7) + 9) (Int32.toNatClampNeg x1)) else (if (Int32.toInt x2) = 1 then (m.1 ((m.2.2.1 x0 7) + 10) (Int32.toNatClampNeg x1)) else (if (Int32.toInt x2) = 2 then (((m.1 (m.2.2.1 x0 7) 13) >>> (x1 &&& 31)) &&& (1 : Int32)) else (-1 : Int32)))) else (-1 : Int32))
set_option maxHeartbeats 8000000 in
theorem k_X9_place {u : Nat} {N : Nat} {Φ : Int32 → Option Value → dc_M → Prop} (x0 : Nat) (x1 : Int32) (x2 : Int32) (m : dc_M) (kR : ∀ (v : Int32), Φ (v) (some (.int v)) m)  {lv : ab_L} (f0 : ab_lk lv 0 = some (.ref x0)) (f1 : ab_lk lv 1 = some (.int x1)) (f2 : ab_lk lv 2 = some (.int x2)) : dc_pv u N ab_M_X9_place 0 lv [] m (Φ (d_X9_place x0 x1 x2 m)) := by
  refine dc_pv.mono (dc_ok (C := C_X9_place) (S := S_X9_place) CO_X9_place 400 0 [(0, .ref x0), (1, .int x1), (2, .int x2)] lv [] m (dc_sub_cons f0 (dc_sub_cons f1 (dc_sub_cons f2 (dc_sub_nil)))) ?_) (Nat.le_succ N)
  unfold d_X9_place
  refine dg_s (pc' := 1) [.ref x0] rfl (fun _ => rfl) rfl ?_
  refine dg_s (pc' := 4) [.ref (m.2.2.1 x0 7)] rfl (fun _ => rfl) rfl ?_
  refine dg_s (pc' := 5) [.int x1, .ref (m.2.2.1 x0 7)] rfl (fun _ => rfl) rfl ?_
  refine dg_s (pc' := 8) [.int (d_X3_hasPlace (m.2.2.1 x0 7) x1 m)] rfl (fun _ => rfl) rfl ?_
  refine dw_if (fun t => Φ t) (¬ (Int32.toInt (d_X3_hasPlace (m.2.2.1 x0 7) x1 m)) = 0) [] 13 11 rfl (fun _ => rfl) (fun c0 => ?_) (fun c0 => ?_)
  · refine dw_g rfl ?_
    refine dg_s (pc' := 14) [.int x2] rfl (fun _ => rfl) rfl ?_
    refine dw_sw (fun t => Φ t) ((Int32.toInt x2)) 72 [(0, 40), (1, 50), (2, 60)] [] rfl (fun _ => rfl) ?_
    refine dw_ts (fun t => Φ t) (fun c1 => ?_) (fun c1 => ?_)
    · refine dw_g rfl ?_
      refine dg_s (pc' := 41) [.ref x0] rfl (fun _ => rfl) rfl ?_
      refine dg_s (pc' := 44) [.ref (m.2.2.1 x0 7)] rfl (fun _ => rfl) rfl ?_
      refine dg_s (pc' := 47) [.ref ((m.2.2.1 x0 7) + 9)] rfl (fun _ => rfl) rfl ?_
      refine dg_s (pc' := 48) [.int x1, .ref ((m.2.2.1 x0 7) + 9)] rfl (fun _ => rfl) rfl ?_
      refine dg_s (pc' := 49) [.int (m.1 ((m.2.2.1 x0 7) + 9) (Int32.toNatClampNeg x1))] rfl (fun _ => rfl) rfl ?_
      exact dw_r (some (.inl (some (.int (m.1 ((m.2.2.1 x0 7) + 9) (Int32.toNatClampNeg x1))), m))) rfl (fun _ => rfl) (kR _)
    refine dw_ts (fun t => Φ t) (fun c2 => ?_) (fun c2 => ?_)
    · refine dw_g rfl ?_
      refine dg_s (pc' := 51) [.ref x0] rfl (fun _ => rfl) rfl ?_
      refine dg_s (pc' := 54) [.ref (m.2.2.1 x0 7)] rfl (fun _ => rfl) rfl ?_
      refine dg_s (pc' := 57) [.ref ((m.2.2.1 x0 7) + 10)] rfl (fun _ => rfl) rfl ?_
      refine dg_s (pc' := 58) [.int x1, .ref ((m.2.2.1 x0 7) + 10)] rfl (fun _ => rfl) rfl ?_
      refine dg_s (pc' := 59) [.int (m.1 ((m.2.2.1 x0 7) + 10) (Int32.toNatClampNeg x1))] rfl (fun _ => rfl) rfl ?_
      exact dw_r (some (.inl (some (.int (m.1 ((m.2.2.1 x0 7) + 10) (Int32.toNatClampNeg x1))), m))) rfl (fun _ => rfl) (kR _)
    refine dw_ts (fun t => Φ t) (fun c3 => ?_) (fun c3 => ?_)
    · refine dw_g rfl ?_
      refine dg_s (pc' := 61) [.ref x0] rfl (fun _ => rfl) rfl ?_
      refine dg_s (pc' := 64) [.ref (m.2.2.1 x0 7)] rfl (fun _ => rfl) rfl ?_
      refine dg_s (pc' := 67) [.int (m.1 (m.2.2.1 x0 7) 13)] rfl (fun _ => rfl) rfl ?_
      refine dg_s (pc' := 68) [.int x1, .int (m.1 (m.2.2.1 x0 7) 13)] rfl (fun _ => rfl) rfl ?_
      refine dg_s (pc' := 69) [.int ((m.1 (m.2.2.1 x0 7) 13) >>> (x1 &&& 31))] rfl (fun _ => rfl) rfl ?_
      refine dg_s (pc' := 70) [.int (1 : Int32), .int ((m.1 (m.2.2.1 x0 7) 13) >>> (x1 &&& 31))] rfl (fun _ => rfl) rfl ?_
      refine dg_s (pc' := 71) [.int (((m.1 (m.2.2.1 x0 7) 13) >>> (x1 &&& 31)) &&& (1 : Int32))] rfl (fun _ => rfl) rfl ?_
      exact dw_r (some (.inl (some (.int (((m.1 (m.2.2.1 x0 7) 13) >>> (x1 &&& 31)) &&& (1 : Int32))), m))) rfl (fun _ => rfl) (kR _)
    refine dw_t0 ?_
    refine dw_g rfl ?_
    refine dg_s (pc' := 73) [.int (-1 : Int32)] rfl (fun _ => rfl) rfl ?_
    exact dw_r (some (.inl (some (.int (-1 : Int32)), m))) rfl (fun _ => rfl) (kR _)
  · refine dw_g rfl ?_
    refine dg_s (pc' := 12) [.int (-1 : Int32)] rfl (fun _ => rfl) rfl ?_
    exact dw_r (some (.inl (some (.int (-1 : Int32)), m))) rfl (fun _ => rfl) (kR _)
def H_X9_place : dc_H := fun As m k => match As with
  | [.ref x0, .int x1, .int x2] => k (some (.int (d_X9_place x0 x1 x2 m))) m
  | _ => dc_kz
theorem H_X9_place_ok {u : Nat} : dc_cok u 107 H_X9_place := fun M' hG N As m k P hz hP => by
  obtain rfl : ab_M_X9_place = M' := Option.some.inj hG
  unfold H_X9_place at hP
  split at hP
  · rename_i x0 x1 x2
    exact dc_pv.imp (k_X9_place (Φ := fun (t : Int32) r m' => P (k (some (.int t)) m) → P (k r m')) x0 x1 x2 m (fun _  h => h) rfl rfl rfl) (fun r m' h => h hP)
  · exact absurd hP hz
def C_X10_feeding : List (Nat × dc_H) := []
theorem CO_X10_feeding {u : Nat} : dc_CO u C_X10_feeding := dc_CO_nil
def S_X10_feeding : List (Nat × List Nat) := [(4, [0, 1, 2, 3])]
noncomputable def d_X10_feeding_l4b (x0 : Nat) (x1 : Int32) (x2 : Int32) (x3 : Int32) (m : dc_M) : Option ((Int32 × Int32) ⊕ Int32) :=
  (if (Int32.toInt (m.1 x0 3)) ≤ (Int32.toInt x3) then some (Sum.inr (x2)) else some (Sum.inl ((x2 ||| ((((m.1 (x0 + 7) (Int32.toNatClampNeg x3)) >>> (x1 &&& 31)) &&& (1 : Int32)) <<< (x3 &&& 31))), (x3 + (1 : Int32)))))
noncomputable def d_X10_feeding_l4s (x0 : Nat) (x1 : Int32) (m : dc_M) : (Int32 × Int32) → Option ((Int32 × Int32) ⊕ Int32) := fun s => d_X10_feeding_l4b x0 x1 s.1 s.2 m
noncomputable def d_X10_feeding_l4 (x0 : Nat) (x1 : Int32) (x2 : Int32) (x3 : Int32) (m : dc_M) : Option Int32 := dc_lp (d_X10_feeding_l4s x0 x1 m) (x2, x3)
set_option maxHeartbeats 8000000 in
theorem k_X10_feeding_l4 {u : Nat} {Φ : (Option Int32) → Option Value → dc_M → Prop} (x0 : Nat) (x1 : Int32) (m : dc_M) (kR : ∀ (v : Int32), Φ (some (v)) (some (.int v)) m) : ∀ (N : Nat), ∀ (x2 : Int32) (x3 : Int32) (lv : ab_L), ab_lk lv 0 = some (.ref x0) → ab_lk lv 1 = some (.int x1) → ab_lk lv 2 = some (.int x2) → ab_lk lv 3 = some (.int x3) → dc_pv u N ab_M_X10_feeding 4 lv [] m (Φ (d_X10_feeding_l4 x0 x1 x2 x3 m)) := by
  intro N
  induction N with
  | zero => intros; exact dc_pv_zero
  | succ N ih =>
    intro x2 x3 lv f0 f1 f2 f3
    refine dc_ok (C := C_X10_feeding) (S := S_X10_feeding) CO_X10_feeding 400 4 [(0, .ref x0), (1, .int x1), (2, .int x2), (3, .int x3)] lv [] m (dc_sub_cons f0 (dc_sub_cons f1 (dc_sub_cons f2 (dc_sub_cons f3 (dc_sub_nil))))) ?_
    unfold d_X10_feeding_l4
    rw [dc_lp_eq]
    show (fun t x => dc_lf u N ab_M_X10_feeding (Φ (Option.bind t (dc_bk (d_X10_feeding_l4s x0 x1 m)))) x) (d_X10_feeding_l4b x0 x1 x2 x3 m) _
    dsimp only
    unfold d_X10_feeding_l4b
    refine dg_s (pc' := 5) [.int x3] rfl (fun _ => rfl) rfl ?_
    refine dg_s (pc' := 6) [.ref x0, .int x3] rfl (fun _ => rfl) rfl ?_
    refine dg_s (pc' := 9) [.int (m.1 x0 3), .int x3] rfl (fun _ => rfl) rfl ?_
    refine dw_if (fun t => Φ (Option.bind t (dc_bk (d_X10_feeding_l4s x0 x1 m)))) ((Int32.toInt (m.1 x0 3)) ≤ (Int32.toInt x3)) [] 33 12 rfl (fun _ => rfl) (fun c0 => ?_) (fun c0 => ?_)
    · refine dw_g rfl ?_
      refine dg_s (pc' := 34) [.int x2] rfl (fun _ => rfl) rfl ?_
      exact dw_r (some (.inl (some (.int x2), m))) rfl (fun _ => rfl) (kR _)
    · refine dw_g rfl ?_
      refine dg_s (pc' := 13) [.int x2] rfl (fun _ => rfl) rfl ?_
      refine dg_s (pc' := 14) [.ref x0, .int x2] rfl (fun _ => rfl) rfl ?_
      refine dg_s (pc' := 17) [.ref (x0 + 7), .int x2] rfl (fun _ => rfl) rfl ?_
      refine dg_s (pc' := 18) [.int x3, .ref (x0 + 7), .int x2] rfl (fun _ => rfl) rfl ?_
      refine dg_s (pc' := 19) [.int (m.1 (x0 + 7) (Int32.toNatClampNeg x3)), .int x2] rfl (fun _ => rfl) rfl ?_
      refine dg_s (pc' := 20) [.int x1, .int (m.1 (x0 + 7) (Int32.toNatClampNeg x3)), .int x2] rfl (fun _ => rfl) rfl ?_
      refine dg_s (pc' := 21) [.int ((m.1 (x0 + 7) (Int32.toNatClampNeg x3)) >>> (x1 &&& 31)), .int x2] rfl (fun _ => rfl) rfl ?_
      refine dg_s (pc' := 22) [.int (1 : Int32), .int ((m.1 (x0 + 7) (Int32.toNatClampNeg x3)) >>> (x1 &&& 31)), .int x2] rfl (fun _ => rfl) rfl ?_
      refine dg_s (pc' := 23) [.int (((m.1 (x0 + 7) (Int32.toNatClampNeg x3)) >>> (x1 &&& 31)) &&& (1 : Int32)), .int x2] rfl (fun _ => rfl) rfl ?_
      refine dg_s (pc' := 24) [.int x3, .int (((m.1 (x0 + 7) (Int32.toNatClampNeg x3)) >>> (x1 &&& 31)) &&& (1 : Int32)), .int x2] rfl (fun _ => rfl) rfl ?_
      refine dg_s (pc' := 25) [.int ((((m.1 (x0 + 7) (Int32.toNatClampNeg x3)) >>> (x1 &&& 31)) &&& (1 : Int32)) <<< (x3 &&& 31)), .int x2] rfl (fun _ => rfl) rfl ?_
      refine dg_s (pc' := 26) [.int (x2 ||| ((((m.1 (x0 + 7) (Int32.toNatClampNeg x3)) >>> (x1 &&& 31)) &&& (1 : Int32)) <<< (x3 &&& 31)))] rfl (fun _ => rfl) rfl ?_
      refine dg_L (pc' := 27) [(2, .int (x2 ||| ((((m.1 (x0 + 7) (Int32.toNatClampNeg x3)) >>> (x1 &&& 31)) &&& (1 : Int32)) <<< (x3 &&& 31)))), (0, .ref x0), (1, .int x1), (3, .int x3)] [] rfl (fun _ => rfl) rfl ?_
      refine dg_L (pc' := 30) [(3, .int (x3 + (1 : Int32))), (2, .int (x2 ||| ((((m.1 (x0 + 7) (Int32.toNatClampNeg x3)) >>> (x1 &&& 31)) &&& (1 : Int32)) <<< (x3 &&& 31)))), (0, .ref x0), (1, .int x1)] [] rfl (fun _ => rfl) rfl ?_
      refine dw_s (pc' := 4) [] rfl (fun _ => rfl) ?_
      exact dw_j rfl (fun lv1 hv => ih (x2 ||| ((((m.1 (x0 + 7) (Int32.toNatClampNeg x3)) >>> (x1 &&& 31)) &&& (1 : Int32)) <<< (x3 &&& 31))) (x3 + (1 : Int32)) lv1 (hv.1 _ rfl) (hv.2.1 _ rfl) (hv.2.2.1 _ rfl) (hv.2.2.2.1 _ rfl))
noncomputable def d_X10_feeding (x0 : Nat) (x1 : Int32) (m : dc_M) : Option Int32 :=
  (d_X10_feeding_l4 x0 x1 (0 : Int32) (0 : Int32) m)
set_option maxHeartbeats 8000000 in
theorem k_X10_feeding {u : Nat} {N : Nat} {Φ : (Option Int32) → Option Value → dc_M → Prop} (x0 : Nat) (x1 : Int32) (m : dc_M) (kR : ∀ (v : Int32), Φ (some (v)) (some (.int v)) m)  {lv : ab_L} (f0 : ab_lk lv 0 = some (.ref x0)) (f1 : ab_lk lv 1 = some (.int x1)) : dc_pv u N ab_M_X10_feeding 0 lv [] m (Φ (d_X10_feeding x0 x1 m)) := by
  refine dc_pv.mono (dc_ok (C := C_X10_feeding) (S := S_X10_feeding) CO_X10_feeding 400 0 [(0, .ref x0), (1, .int x1)] lv [] m (dc_sub_cons f0 (dc_sub_cons f1 (dc_sub_nil))) ?_) (Nat.le_succ N)
  unfold d_X10_feeding
  refine dg_s (pc' := 1) [.int (0 : Int32)] rfl (fun _ => rfl) rfl ?_
  refine dg_L (pc' := 2) [(2, .int (0 : Int32)), (0, .ref x0), (1, .int x1)] [] rfl (fun _ => rfl) rfl ?_
  refine dg_s (pc' := 3) [.int (0 : Int32)] rfl (fun _ => rfl) rfl ?_
  refine dw_L (pc' := 4) [(3, .int (0 : Int32)), (2, .int (0 : Int32)), (0, .ref x0), (1, .int x1)] [] rfl (fun _ => rfl) ?_
  exact dw_j rfl (fun lv1 hv => k_X10_feeding_l4 (Φ := (fun t => Φ t)) x0 x1 m (fun _a  => kR _a) N  (0 : Int32) (0 : Int32) lv1 (hv.1 _ rfl) (hv.2.1 _ rfl) (hv.2.2.1 _ rfl) (hv.2.2.2.1 _ rfl))
noncomputable def H_X10_feeding : dc_H := fun As m k => match As with
  | [.ref x0, .int x1] => (d_X10_feeding x0 x1 m).bind (fun q => k (some (.int q)) m)
  | _ => dc_kz
theorem H_X10_feeding_ok {u : Nat} : dc_cok u 166 H_X10_feeding := fun M' hG N As m k P hz hP => by
  obtain rfl : ab_M_X10_feeding = M' := Option.some.inj hG
  unfold H_X10_feeding at hP
  split at hP
  · rename_i x0 x1
    exact dc_pv.imp (k_X10_feeding (Φ := fun (t : Option Int32) r m' => P (t.bind (fun q => k (some (.int q)) m)) → P (k r m')) x0 x1 m (fun _  h => h) rfl rfl) (fun r m' h => h hP)
  · exact absurd hP hz
def C_X10_taking : List (Nat × dc_H) := []
theorem CO_X10_taking {u : Nat} : dc_CO u C_X10_taking := dc_CO_nil
def S_X10_taking : List (Nat × List Nat) := [(4, [0, 1, 2, 3])]
noncomputable def d_X10_taking_l4b (x0 : Nat) (x1 : Int32) (x2 : Int32) (x3 : Int32) (m : dc_M) : Option ((Int32 × Int32) ⊕ Int32) :=
  (if (Int32.toInt (m.1 x0 3)) ≤ (Int32.toInt x3) then some (Sum.inr (x2)) else some (Sum.inl ((x2 ||| ((((m.1 (x0 + 6) (Int32.toNatClampNeg x3)) >>> (x1 &&& 31)) &&& (1 : Int32)) <<< (x3 &&& 31))), (x3 + (1 : Int32)))))
noncomputable def d_X10_taking_l4s (x0 : Nat) (x1 : Int32) (m : dc_M) : (Int32 × Int32) → Option ((Int32 × Int32) ⊕ Int32) := fun s => d_X10_taking_l4b x0 x1 s.1 s.2 m
noncomputable def d_X10_taking_l4 (x0 : Nat) (x1 : Int32) (x2 : Int32) (x3 : Int32) (m : dc_M) : Option Int32 := dc_lp (d_X10_taking_l4s x0 x1 m) (x2, x3)
set_option maxHeartbeats 8000000 in
theorem k_X10_taking_l4 {u : Nat} {Φ : (Option Int32) → Option Value → dc_M → Prop} (x0 : Nat) (x1 : Int32) (m : dc_M) (kR : ∀ (v : Int32), Φ (some (v)) (some (.int v)) m) : ∀ (N : Nat), ∀ (x2 : Int32) (x3 : Int32) (lv : ab_L), ab_lk lv 0 = some (.ref x0) → ab_lk lv 1 = some (.int x1) → ab_lk lv 2 = some (.int x2) → ab_lk lv 3 = some (.int x3) → dc_pv u N ab_M_X10_taking 4 lv [] m (Φ (d_X10_taking_l4 x0 x1 x2 x3 m)) := by
  intro N
  induction N with
  | zero => intros; exact dc_pv_zero
  | succ N ih =>
    intro x2 x3 lv f0 f1 f2 f3
    refine dc_ok (C := C_X10_taking) (S := S_X10_taking) CO_X10_taking 400 4 [(0, .ref x0), (1, .int x1), (2, .int x2), (3, .int x3)] lv [] m (dc_sub_cons f0 (dc_sub_cons f1 (dc_sub_cons f2 (dc_sub_cons f3 (dc_sub_nil))))) ?_
    unfold d_X10_taking_l4
    rw [dc_lp_eq]
    show (fun t x => dc_lf u N ab_M_X10_taking (Φ (Option.bind t (dc_bk (d_X10_taking_l4s x0 x1 m)))) x) (d_X10_taking_l4b x0 x1 x2 x3 m) _
    dsimp only
    unfold d_X10_taking_l4b
    refine dg_s (pc' := 5) [.int x3] rfl (fun _ => rfl) rfl ?_
    refine dg_s (pc' := 6) [.ref x0, .int x3] rfl (fun _ => rfl) rfl ?_
    refine dg_s (pc' := 9) [.int (m.1 x0 3), .int x3] rfl (fun _ => rfl) rfl ?_
    refine dw_if (fun t => Φ (Option.bind t (dc_bk (d_X10_taking_l4s x0 x1 m)))) ((Int32.toInt (m.1 x0 3)) ≤ (Int32.toInt x3)) [] 33 12 rfl (fun _ => rfl) (fun c0 => ?_) (fun c0 => ?_)
    · refine dw_g rfl ?_
      refine dg_s (pc' := 34) [.int x2] rfl (fun _ => rfl) rfl ?_
      exact dw_r (some (.inl (some (.int x2), m))) rfl (fun _ => rfl) (kR _)
    · refine dw_g rfl ?_
      refine dg_s (pc' := 13) [.int x2] rfl (fun _ => rfl) rfl ?_
      refine dg_s (pc' := 14) [.ref x0, .int x2] rfl (fun _ => rfl) rfl ?_
      refine dg_s (pc' := 17) [.ref (x0 + 6), .int x2] rfl (fun _ => rfl) rfl ?_
      refine dg_s (pc' := 18) [.int x3, .ref (x0 + 6), .int x2] rfl (fun _ => rfl) rfl ?_
      refine dg_s (pc' := 19) [.int (m.1 (x0 + 6) (Int32.toNatClampNeg x3)), .int x2] rfl (fun _ => rfl) rfl ?_
      refine dg_s (pc' := 20) [.int x1, .int (m.1 (x0 + 6) (Int32.toNatClampNeg x3)), .int x2] rfl (fun _ => rfl) rfl ?_
      refine dg_s (pc' := 21) [.int ((m.1 (x0 + 6) (Int32.toNatClampNeg x3)) >>> (x1 &&& 31)), .int x2] rfl (fun _ => rfl) rfl ?_
      refine dg_s (pc' := 22) [.int (1 : Int32), .int ((m.1 (x0 + 6) (Int32.toNatClampNeg x3)) >>> (x1 &&& 31)), .int x2] rfl (fun _ => rfl) rfl ?_
      refine dg_s (pc' := 23) [.int (((m.1 (x0 + 6) (Int32.toNatClampNeg x3)) >>> (x1 &&& 31)) &&& (1 : Int32)), .int x2] rfl (fun _ => rfl) rfl ?_
      refine dg_s (pc' := 24) [.int x3, .int (((m.1 (x0 + 6) (Int32.toNatClampNeg x3)) >>> (x1 &&& 31)) &&& (1 : Int32)), .int x2] rfl (fun _ => rfl) rfl ?_
      refine dg_s (pc' := 25) [.int ((((m.1 (x0 + 6) (Int32.toNatClampNeg x3)) >>> (x1 &&& 31)) &&& (1 : Int32)) <<< (x3 &&& 31)), .int x2] rfl (fun _ => rfl) rfl ?_
      refine dg_s (pc' := 26) [.int (x2 ||| ((((m.1 (x0 + 6) (Int32.toNatClampNeg x3)) >>> (x1 &&& 31)) &&& (1 : Int32)) <<< (x3 &&& 31)))] rfl (fun _ => rfl) rfl ?_
      refine dg_L (pc' := 27) [(2, .int (x2 ||| ((((m.1 (x0 + 6) (Int32.toNatClampNeg x3)) >>> (x1 &&& 31)) &&& (1 : Int32)) <<< (x3 &&& 31)))), (0, .ref x0), (1, .int x1), (3, .int x3)] [] rfl (fun _ => rfl) rfl ?_
      refine dg_L (pc' := 30) [(3, .int (x3 + (1 : Int32))), (2, .int (x2 ||| ((((m.1 (x0 + 6) (Int32.toNatClampNeg x3)) >>> (x1 &&& 31)) &&& (1 : Int32)) <<< (x3 &&& 31)))), (0, .ref x0), (1, .int x1)] [] rfl (fun _ => rfl) rfl ?_
      refine dw_s (pc' := 4) [] rfl (fun _ => rfl) ?_
      exact dw_j rfl (fun lv1 hv => ih (x2 ||| ((((m.1 (x0 + 6) (Int32.toNatClampNeg x3)) >>> (x1 &&& 31)) &&& (1 : Int32)) <<< (x3 &&& 31))) (x3 + (1 : Int32)) lv1 (hv.1 _ rfl) (hv.2.1 _ rfl) (hv.2.2.1 _ rfl) (hv.2.2.2.1 _ rfl))
noncomputable def d_X10_taking (x0 : Nat) (x1 : Int32) (m : dc_M) : Option Int32 :=
  (d_X10_taking_l4 x0 x1 (0 : Int32) (0 : Int32) m)
set_option maxHeartbeats 8000000 in
theorem k_X10_taking {u : Nat} {N : Nat} {Φ : (Option Int32) → Option Value → dc_M → Prop} (x0 : Nat) (x1 : Int32) (m : dc_M) (kR : ∀ (v : Int32), Φ (some (v)) (some (.int v)) m)  {lv : ab_L} (f0 : ab_lk lv 0 = some (.ref x0)) (f1 : ab_lk lv 1 = some (.int x1)) : dc_pv u N ab_M_X10_taking 0 lv [] m (Φ (d_X10_taking x0 x1 m)) := by
  refine dc_pv.mono (dc_ok (C := C_X10_taking) (S := S_X10_taking) CO_X10_taking 400 0 [(0, .ref x0), (1, .int x1)] lv [] m (dc_sub_cons f0 (dc_sub_cons f1 (dc_sub_nil))) ?_) (Nat.le_succ N)
  unfold d_X10_taking
  refine dg_s (pc' := 1) [.int (0 : Int32)] rfl (fun _ => rfl) rfl ?_
  refine dg_L (pc' := 2) [(2, .int (0 : Int32)), (0, .ref x0), (1, .int x1)] [] rfl (fun _ => rfl) rfl ?_
  refine dg_s (pc' := 3) [.int (0 : Int32)] rfl (fun _ => rfl) rfl ?_
  refine dw_L (pc' := 4) [(3, .int (0 : Int32)), (2, .int (0 : Int32)), (0, .ref x0), (1, .int x1)] [] rfl (fun _ => rfl) ?_
  exact dw_j rfl (fun lv1 hv => k_X10_taking_l4 (Φ := (fun t => Φ t)) x0 x1 m (fun _a  => kR _a) N  (0 : Int32) (0 : Int32) lv1 (hv.1 _ rfl) (hv.2.1 _ rfl) (hv.2.2.1 _ rfl) (hv.2.2.2.1 _ rfl))
noncomputable def H_X10_taking : dc_H := fun As m k => match As with
  | [.ref x0, .int x1] => (d_X10_taking x0 x1 m).bind (fun q => k (some (.int q)) m)
  | _ => dc_kz
theorem H_X10_taking_ok {u : Nat} : dc_cok u 167 H_X10_taking := fun M' hG N As m k P hz hP => by
  obtain rfl : ab_M_X10_taking = M' := Option.some.inj hG
  unfold H_X10_taking at hP
  split at hP
  · rename_i x0 x1
    exact dc_pv.imp (k_X10_taking (Φ := fun (t : Option Int32) r m' => P (t.bind (fun q => k (some (.int q)) m)) → P (k r m')) x0 x1 m (fun _  h => h) rfl rfl) (fun r m' h => h hP)
  · exact absurd hP hz
noncomputable def C_X10_place : List (Nat × dc_H) := [(166, H_X10_feeding), (146, H_X10_in), (167, H_X10_taking)]
theorem CO_X10_place {u : Nat} : dc_CO u C_X10_place := dc_CO_cons H_X10_feeding_ok (dc_CO_cons H_X10_in_ok (dc_CO_cons H_X10_taking_ok (dc_CO_nil)))
def S_X10_place : List (Nat × List Nat) := []
noncomputable def d_X10_place (x0 : Nat) (x1 : Int32) (x2 : Int32) (m : dc_M) : Option Int32 :=
  (if ¬ (Int32.toInt (d_X10_in (Int32.toInt64 x1) (0 : Int64) (Int32.toInt64 ((m.1 x0 10) - (1 : Int32))) m)) = 0 then (if ¬ (Int32.toInt x2) = 0 then (if ¬ (Int32.toInt x2) = 1 then (if ¬ (Int32.toInt x2) = 2 then some ((-1 : Int32)) else some ((((m.1 x0 11) >>> (x1 &&& 31)) &&& (1 : Int32)))) else ((d_X10_taking x0 x1 m).bind (fun q1 => some (q1)))) else ((d_X10_feeding x0 x1 m).bind (fun q2 => some (q2)))) else some ((-1 : Int32)))
set_option maxHeartbeats 8000000 in
theorem k_X10_place {u : Nat} {N : Nat} {Φ : (Option Int32) → Option Value → dc_M → Prop} (x0 : Nat) (x1 : Int32) (x2 : Int32) (m : dc_M) (kR : ∀ (v : Int32), Φ (some (v)) (some (.int v)) m)  {lv : ab_L} (f0 : ab_lk lv 0 = some (.ref x0)) (f1 : ab_lk lv 1 = some (.int x1)) (f2 : ab_lk lv 2 = some (.int x2)) : dc_pv u N ab_M_X10_place 0 lv [] m (Φ (d_X10_place x0 x1 x2 m)) := by
  refine dc_pv.mono (dc_ok (C := C_X10_place) (S := S_X10_place) CO_X10_place 400 0 [(0, .ref x0), (1, .int x1), (2, .int x2)] lv [] m (dc_sub_cons f0 (dc_sub_cons f1 (dc_sub_cons f2 (dc_sub_nil)))) ?_) (Nat.le_succ N)
  unfold d_X10_place
  refine dg_s (pc' := 1) [.int x1] rfl (fun _ => rfl) rfl ?_
  refine dg_s (pc' := 2) [.long (Int32.toInt64 x1)] rfl (fun _ => rfl) rfl ?_
  refine dg_s (pc' := 3) [.long (0 : Int64), .long (Int32.toInt64 x1)] rfl (fun _ => rfl) rfl ?_
  refine dg_s (pc' := 4) [.ref x0, .long (0 : Int64), .long (Int32.toInt64 x1)] rfl (fun _ => rfl) rfl ?_
  refine dg_s (pc' := 7) [.int (m.1 x0 10), .long (0 : Int64), .long (Int32.toInt64 x1)] rfl (fun _ => rfl) rfl ?_
  refine dg_s (pc' := 8) [.int (1 : Int32), .int (m.1 x0 10), .long (0 : Int64), .long (Int32.toInt64 x1)] rfl (fun _ => rfl) rfl ?_
  refine dg_s (pc' := 9) [.int ((m.1 x0 10) - (1 : Int32)), .long (0 : Int64), .long (Int32.toInt64 x1)] rfl (fun _ => rfl) rfl ?_
  refine dg_s (pc' := 10) [.long (Int32.toInt64 ((m.1 x0 10) - (1 : Int32))), .long (0 : Int64), .long (Int32.toInt64 x1)] rfl (fun _ => rfl) rfl ?_
  refine dg_s (pc' := 13) [.int (d_X10_in (Int32.toInt64 x1) (0 : Int64) (Int32.toInt64 ((m.1 x0 10) - (1 : Int32))) m)] rfl (fun _ => rfl) rfl ?_
  refine dw_if (fun t => Φ t) (¬ (Int32.toInt (d_X10_in (Int32.toInt64 x1) (0 : Int64) (Int32.toInt64 ((m.1 x0 10) - (1 : Int32))) m)) = 0) [] 18 16 rfl (fun _ => rfl) (fun c0 => ?_) (fun c0 => ?_)
  · refine dw_g rfl ?_
    refine dg_s (pc' := 19) [.int x2] rfl (fun _ => rfl) rfl ?_
    refine dw_if (fun t => Φ t) (¬ (Int32.toInt x2) = 0) [] 30 22 rfl (fun _ => rfl) (fun c1 => ?_) (fun c1 => ?_)
    · refine dw_g rfl ?_
      refine dg_s (pc' := 31) [.int x2] rfl (fun _ => rfl) rfl ?_
      refine dg_s (pc' := 32) [.int (1 : Int32), .int x2] rfl (fun _ => rfl) rfl ?_
      refine dw_if (fun t => Φ t) (¬ (Int32.toInt x2) = 1) [] 43 35 rfl (fun _ => rfl) (fun c2 => ?_) (fun c2 => ?_)
      · refine dw_g rfl ?_
        refine dg_s (pc' := 44) [.int x2] rfl (fun _ => rfl) rfl ?_
        refine dg_s (pc' := 45) [.int (2 : Int32), .int x2] rfl (fun _ => rfl) rfl ?_
        refine dw_if (fun t => Φ t) (¬ (Int32.toInt x2) = 2) [] 59 48 rfl (fun _ => rfl) (fun c3 => ?_) (fun c3 => ?_)
        · refine dw_g rfl ?_
          refine dg_s (pc' := 60) [.int (-1 : Int32)] rfl (fun _ => rfl) rfl ?_
          exact dw_r (some (.inl (some (.int (-1 : Int32)), m))) rfl (fun _ => rfl) (kR _)
        · refine dw_g rfl ?_
          refine dg_s (pc' := 49) [.ref x0] rfl (fun _ => rfl) rfl ?_
          refine dg_s (pc' := 52) [.int (m.1 x0 11)] rfl (fun _ => rfl) rfl ?_
          refine dg_s (pc' := 53) [.int x1, .int (m.1 x0 11)] rfl (fun _ => rfl) rfl ?_
          refine dg_s (pc' := 54) [.int ((m.1 x0 11) >>> (x1 &&& 31))] rfl (fun _ => rfl) rfl ?_
          refine dg_s (pc' := 55) [.int (1 : Int32), .int ((m.1 x0 11) >>> (x1 &&& 31))] rfl (fun _ => rfl) rfl ?_
          refine dg_s (pc' := 56) [.int (((m.1 x0 11) >>> (x1 &&& 31)) &&& (1 : Int32))] rfl (fun _ => rfl) rfl ?_
          refine dg_s (pc' := 60) [.int (((m.1 x0 11) >>> (x1 &&& 31)) &&& (1 : Int32))] rfl (fun _ => rfl) rfl ?_
          exact dw_r (some (.inl (some (.int (((m.1 x0 11) >>> (x1 &&& 31)) &&& (1 : Int32))), m))) rfl (fun _ => rfl) (kR _)
      · refine dw_g rfl ?_
        refine dg_s (pc' := 36) [.ref x0] rfl (fun _ => rfl) rfl ?_
        refine dg_s (pc' := 37) [.int x1, .ref x0] rfl (fun _ => rfl) rfl ?_
        refine dw_b (fun t => Φ t) (pc' := 40) (fun q1 => [.int q1]) (fun q1 => m) rfl (fun _ => rfl) (fun q1 => ?_)
        refine dw_g rfl ?_
        refine dg_s (pc' := 60) [.int q1] rfl (fun _ => rfl) rfl ?_
        exact dw_r (some (.inl (some (.int q1), m))) rfl (fun _ => rfl) (kR _)
    · refine dw_g rfl ?_
      refine dg_s (pc' := 23) [.ref x0] rfl (fun _ => rfl) rfl ?_
      refine dg_s (pc' := 24) [.int x1, .ref x0] rfl (fun _ => rfl) rfl ?_
      refine dw_b (fun t => Φ t) (pc' := 27) (fun q2 => [.int q2]) (fun q2 => m) rfl (fun _ => rfl) (fun q2 => ?_)
      refine dw_g rfl ?_
      refine dg_s (pc' := 60) [.int q2] rfl (fun _ => rfl) rfl ?_
      exact dw_r (some (.inl (some (.int q2), m))) rfl (fun _ => rfl) (kR _)
  · refine dw_g rfl ?_
    refine dg_s (pc' := 17) [.int (-1 : Int32)] rfl (fun _ => rfl) rfl ?_
    exact dw_r (some (.inl (some (.int (-1 : Int32)), m))) rfl (fun _ => rfl) (kR _)
noncomputable def H_X10_place : dc_H := fun As m k => match As with
  | [.ref x0, .int x1, .int x2] => (d_X10_place x0 x1 x2 m).bind (fun q => k (some (.int q)) m)
  | _ => dc_kz
theorem H_X10_place_ok {u : Nat} : dc_cok u 168 H_X10_place := fun M' hG N As m k P hz hP => by
  obtain rfl : ab_M_X10_place = M' := Option.some.inj hG
  unfold H_X10_place at hP
  split at hP
  · rename_i x0 x1 x2
    exact dc_pv.imp (k_X10_place (Φ := fun (t : Option Int32) r m' => P (t.bind (fun q => k (some (.int q)) m)) → P (k r m')) x0 x1 x2 m (fun _  h => h) rfl rfl rfl) (fun r m' h => h hP)
  · exact absurd hP hz
def C_X3_canCome : List (Nat × dc_H) := [(36, H_X3_isReady), (37, H_X3_isUnsafe)]
theorem CO_X3_canCome {u : Nat} : dc_CO u C_X3_canCome := dc_CO_cons H_X3_isReady_ok (dc_CO_cons H_X3_isUnsafe_ok (dc_CO_nil))
def S_X3_canCome : List (Nat × List Nat) := []
def d_X3_canCome (x0 : Nat) (x1 : Int32) (x2 : Int32) (m : dc_M) : Int32 :=
  (if (Int32.toInt (d_X3_isReady x0 x1 x2 m)) = 0 then (0 : Int32) else (if ¬ (Int32.toInt (d_X3_isUnsafe x0 x1 x2 m)) = 0 then (0 : Int32) else (1 : Int32)))
set_option maxHeartbeats 8000000 in
theorem k_X3_canCome {u : Nat} {N : Nat} {Φ : Int32 → Option Value → dc_M → Prop} (x0 : Nat) (x1 : Int32) (x2 : Int32) (m : dc_M) (kR : ∀ (v : Int32), Φ (v) (some (.int v)) m)  {lv : ab_L} (f0 : ab_lk lv 0 = some (.ref x0)) (f1 : ab_lk lv 1 = some (.int x1)) (f2 : ab_lk lv 2 = some (.int x2)) : dc_pv u N ab_M_X3_canCome 0 lv [] m (Φ (d_X3_canCome x0 x1 x2 m)) := by
  refine dc_pv.mono (dc_ok (C := C_X3_canCome) (S := S_X3_canCome) CO_X3_canCome 400 0 [(0, .ref x0), (1, .int x1), (2, .int x2)] lv [] m (dc_sub_cons f0 (dc_sub_cons f1 (dc_sub_cons f2 (dc_sub_nil)))) ?_) (Nat.le_succ N)
  unfold d_X3_canCome
  refine dg_s (pc' := 1) [.ref x0] rfl (fun _ => rfl) rfl ?_
  refine dg_s (pc' := 2) [.int x1, .ref x0] rfl (fun _ => rfl) rfl ?_
  refine dg_s (pc' := 3) [.int x2, .int x1, .ref x0] rfl (fun _ => rfl) rfl ?_
  refine dg_s (pc' := 6) [.int (d_X3_isReady x0 x1 x2 m)] rfl (fun _ => rfl) rfl ?_
  refine dw_if (fun t => Φ t) ((Int32.toInt (d_X3_isReady x0 x1 x2 m)) = 0) [] 22 9 rfl (fun _ => rfl) (fun c0 => ?_) (fun c0 => ?_)
  · refine dw_g rfl ?_
    refine dg_s (pc' := 23) [.int (0 : Int32)] rfl (fun _ => rfl) rfl ?_
    exact dw_r (some (.inl (some (.int (0 : Int32)), m))) rfl (fun _ => rfl) (kR _)
  · refine dw_g rfl ?_
    refine dg_s (pc' := 10) [.ref x0] rfl (fun _ => rfl) rfl ?_
    refine dg_s (pc' := 11) [.int x1, .ref x0] rfl (fun _ => rfl) rfl ?_
    refine dg_s (pc' := 12) [.int x2, .int x1, .ref x0] rfl (fun _ => rfl) rfl ?_
    refine dg_s (pc' := 15) [.int (d_X3_isUnsafe x0 x1 x2 m)] rfl (fun _ => rfl) rfl ?_
    refine dw_if (fun t => Φ t) (¬ (Int32.toInt (d_X3_isUnsafe x0 x1 x2 m)) = 0) [] 22 18 rfl (fun _ => rfl) (fun c1 => ?_) (fun c1 => ?_)
    · refine dw_g rfl ?_
      refine dg_s (pc' := 23) [.int (0 : Int32)] rfl (fun _ => rfl) rfl ?_
      exact dw_r (some (.inl (some (.int (0 : Int32)), m))) rfl (fun _ => rfl) (kR _)
    · refine dw_g rfl ?_
      refine dg_s (pc' := 19) [.int (1 : Int32)] rfl (fun _ => rfl) rfl ?_
      refine dg_s (pc' := 23) [.int (1 : Int32)] rfl (fun _ => rfl) rfl ?_
      exact dw_r (some (.inl (some (.int (1 : Int32)), m))) rfl (fun _ => rfl) (kR _)
def H_X3_canCome : dc_H := fun As m k => match As with
  | [.ref x0, .int x1, .int x2] => k (some (.int (d_X3_canCome x0 x1 x2 m))) m
  | _ => dc_kz
theorem H_X3_canCome_ok {u : Nat} : dc_cok u 38 H_X3_canCome := fun M' hG N As m k P hz hP => by
  obtain rfl : ab_M_X3_canCome = M' := Option.some.inj hG
  unfold H_X3_canCome at hP
  split at hP
  · rename_i x0 x1 x2
    exact dc_pv.imp (k_X3_canCome (Φ := fun (t : Int32) r m' => P (k (some (.int t)) m) → P (k r m')) x0 x1 x2 m (fun _  h => h) rfl rfl rfl) (fun r m' h => h hP)
  · exact absurd hP hz
def C_X9_row : List (Nat × dc_H) := [(39, H_X3_after), (38, H_X3_canCome), (26, H_X3_hasEvent), (78, H_X6_faultAs), (79, H_X6_hasCells), (132, H_X9_isLane), (131, H_X9_isSheet)]
theorem CO_X9_row {u : Nat} : dc_CO u C_X9_row := dc_CO_cons H_X3_after_ok (dc_CO_cons H_X3_canCome_ok (dc_CO_cons H_X3_hasEvent_ok (dc_CO_cons H_X6_faultAs_ok (dc_CO_cons H_X6_hasCells_ok (dc_CO_cons H_X9_isLane_ok (dc_CO_cons H_X9_isSheet_ok (dc_CO_nil)))))))
def S_X9_row : List (Nat × List Nat) := [(86, [0, 3, 4, 5, 7, 8])]
noncomputable def d_X9_row_l86b (x0 : Nat) (x3 : Int32) (x4 : Int32) (x5 : Nat) (x7 : Int32) (x8 : Int32) (m : dc_M) : Option ((Int32 × Int32) ⊕ Int32) :=
  (if (Int32.toInt x4) ≤ (Int32.toInt x8) then some (Sum.inr ((-4 : Int32))) else (if (Int32.toInt (d_X3_hasEvent (m.2.2.1 x0 7) (m.1 (x5 + 1) (Int32.toNatClampNeg (x3 + x8))) m)) = 0 then some (Sum.inr (x8)) else (if ¬ (Int32.toInt (d_X3_canCome (m.2.2.1 x0 7) x7 (m.1 (x5 + 1) (Int32.toNatClampNeg (x3 + x8))) m)) = 0 then some (Sum.inl ((d_X3_after (m.2.2.1 x0 7) x7 (m.1 (x5 + 1) (Int32.toNatClampNeg (x3 + x8))) m), (x8 + (1 : Int32)))) else some (Sum.inr (x8)))))
noncomputable def d_X9_row_l86s (x0 : Nat) (x3 : Int32) (x4 : Int32) (x5 : Nat) (m : dc_M) : (Int32 × Int32) → Option ((Int32 × Int32) ⊕ Int32) := fun s => d_X9_row_l86b x0 x3 x4 x5 s.1 s.2 m
noncomputable def d_X9_row_l86 (x0 : Nat) (x3 : Int32) (x4 : Int32) (x5 : Nat) (x7 : Int32) (x8 : Int32) (m : dc_M) : Option Int32 := dc_lp (d_X9_row_l86s x0 x3 x4 x5 m) (x7, x8)
set_option maxHeartbeats 8000000 in
theorem k_X9_row_l86 {u : Nat} {Φ : (Option Int32) → Option Value → dc_M → Prop} (x0 : Nat) (x3 : Int32) (x4 : Int32) (x5 : Nat) (m : dc_M) (kR : ∀ (v : Int32), Φ (some (v)) (some (.int v)) m) : ∀ (N : Nat), ∀ (x7 : Int32) (x8 : Int32) (lv : ab_L), ab_lk lv 0 = some (.ref x0) → ab_lk lv 3 = some (.int x3) → ab_lk lv 4 = some (.int x4) → ab_lk lv 5 = some (.ref x5) → ab_lk lv 7 = some (.int x7) → ab_lk lv 8 = some (.int x8) → dc_pv u N ab_M_X9_row 86 lv [] m (Φ (d_X9_row_l86 x0 x3 x4 x5 x7 x8 m)) := by
  intro N
  induction N with
  | zero => intros; exact dc_pv_zero
  | succ N ih =>
    intro x7 x8 lv f0 f3 f4 f5 f7 f8
    refine dc_ok (C := C_X9_row) (S := S_X9_row) CO_X9_row 400 86 [(0, .ref x0), (3, .int x3), (4, .int x4), (5, .ref x5), (7, .int x7), (8, .int x8)] lv [] m (dc_sub_cons f0 (dc_sub_cons f3 (dc_sub_cons f4 (dc_sub_cons f5 (dc_sub_cons f7 (dc_sub_cons f8 (dc_sub_nil))))))) ?_
    unfold d_X9_row_l86
    rw [dc_lp_eq]
    show (fun t x => dc_lf u N ab_M_X9_row (Φ (Option.bind t (dc_bk (d_X9_row_l86s x0 x3 x4 x5 m)))) x) (d_X9_row_l86b x0 x3 x4 x5 x7 x8 m) _
    dsimp only
    unfold d_X9_row_l86b
    refine dg_s (pc' := 88) [.int x8] rfl (fun _ => rfl) rfl ?_
    refine dg_s (pc' := 90) [.int x4, .int x8] rfl (fun _ => rfl) rfl ?_
    refine dw_if (fun t => Φ (Option.bind t (dc_bk (d_X9_row_l86s x0 x3 x4 x5 m)))) ((Int32.toInt x4) ≤ (Int32.toInt x8)) [] 153 93 rfl (fun _ => rfl) (fun c0 => ?_) (fun c0 => ?_)
    · refine dw_g rfl ?_
      refine dg_s (pc' := 155) [.int (-4 : Int32)] rfl (fun _ => rfl) rfl ?_
      exact dw_r (some (.inl (some (.int (-4 : Int32)), m))) rfl (fun _ => rfl) (kR _)
    · refine dw_g rfl ?_
      refine dg_s (pc' := 95) [.ref x5] rfl (fun _ => rfl) rfl ?_
      refine dg_s (pc' := 98) [.ref (x5 + 1)] rfl (fun _ => rfl) rfl ?_
      refine dg_s (pc' := 99) [.int x3, .ref (x5 + 1)] rfl (fun _ => rfl) rfl ?_
      refine dg_s (pc' := 101) [.int x8, .int x3, .ref (x5 + 1)] rfl (fun _ => rfl) rfl ?_
      refine dg_s (pc' := 102) [.int (x3 + x8), .ref (x5 + 1)] rfl (fun _ => rfl) rfl ?_
      refine dg_s (pc' := 103) [.int (m.1 (x5 + 1) (Int32.toNatClampNeg (x3 + x8)))] rfl (fun _ => rfl) rfl ?_
      refine dg_L (pc' := 105) [(9, .int (m.1 (x5 + 1) (Int32.toNatClampNeg (x3 + x8)))), (0, .ref x0), (3, .int x3), (4, .int x4), (5, .ref x5), (7, .int x7), (8, .int x8)] [] rfl (fun _ => rfl) rfl ?_
      refine dg_s (pc' := 106) [.ref x0] rfl (fun _ => rfl) rfl ?_
      refine dg_s (pc' := 109) [.ref (m.2.2.1 x0 7)] rfl (fun _ => rfl) rfl ?_
      refine dg_s (pc' := 111) [.int (m.1 (x5 + 1) (Int32.toNatClampNeg (x3 + x8))), .ref (m.2.2.1 x0 7)] rfl (fun _ => rfl) rfl ?_
      refine dg_s (pc' := 114) [.int (d_X3_hasEvent (m.2.2.1 x0 7) (m.1 (x5 + 1) (Int32.toNatClampNeg (x3 + x8))) m)] rfl (fun _ => rfl) rfl ?_
      refine dw_if (fun t => Φ (Option.bind t (dc_bk (d_X9_row_l86s x0 x3 x4 x5 m)))) ((Int32.toInt (d_X3_hasEvent (m.2.2.1 x0 7) (m.1 (x5 + 1) (Int32.toNatClampNeg (x3 + x8))) m)) = 0) [] 131 117 rfl (fun _ => rfl) (fun c1 => ?_) (fun c1 => ?_)
      · refine dw_g rfl ?_
        refine dg_s (pc' := 133) [.int x8] rfl (fun _ => rfl) rfl ?_
        exact dw_r (some (.inl (some (.int x8), m))) rfl (fun _ => rfl) (kR _)
      · refine dw_g rfl ?_
        refine dg_s (pc' := 118) [.ref x0] rfl (fun _ => rfl) rfl ?_
        refine dg_s (pc' := 121) [.ref (m.2.2.1 x0 7)] rfl (fun _ => rfl) rfl ?_
        refine dg_s (pc' := 123) [.int x7, .ref (m.2.2.1 x0 7)] rfl (fun _ => rfl) rfl ?_
        refine dg_s (pc' := 125) [.int (m.1 (x5 + 1) (Int32.toNatClampNeg (x3 + x8))), .int x7, .ref (m.2.2.1 x0 7)] rfl (fun _ => rfl) rfl ?_
        refine dg_s (pc' := 128) [.int (d_X3_canCome (m.2.2.1 x0 7) x7 (m.1 (x5 + 1) (Int32.toNatClampNeg (x3 + x8))) m)] rfl (fun _ => rfl) rfl ?_
        refine dw_if (fun t => Φ (Option.bind t (dc_bk (d_X9_row_l86s x0 x3 x4 x5 m)))) (¬ (Int32.toInt (d_X3_canCome (m.2.2.1 x0 7) x7 (m.1 (x5 + 1) (Int32.toNatClampNeg (x3 + x8))) m)) = 0) [] 134 131 rfl (fun _ => rfl) (fun c2 => ?_) (fun c2 => ?_)
        · refine dw_g rfl ?_
          refine dg_s (pc' := 135) [.ref x0] rfl (fun _ => rfl) rfl ?_
          refine dg_s (pc' := 138) [.ref (m.2.2.1 x0 7)] rfl (fun _ => rfl) rfl ?_
          refine dg_s (pc' := 140) [.int x7, .ref (m.2.2.1 x0 7)] rfl (fun _ => rfl) rfl ?_
          refine dg_s (pc' := 142) [.int (m.1 (x5 + 1) (Int32.toNatClampNeg (x3 + x8))), .int x7, .ref (m.2.2.1 x0 7)] rfl (fun _ => rfl) rfl ?_
          refine dg_s (pc' := 145) [.int (d_X3_after (m.2.2.1 x0 7) x7 (m.1 (x5 + 1) (Int32.toNatClampNeg (x3 + x8))) m)] rfl (fun _ => rfl) rfl ?_
          refine dg_L (pc' := 147) [(7, .int (d_X3_after (m.2.2.1 x0 7) x7 (m.1 (x5 + 1) (Int32.toNatClampNeg (x3 + x8))) m)), (9, .int (m.1 (x5 + 1) (Int32.toNatClampNeg (x3 + x8)))), (0, .ref x0), (3, .int x3), (4, .int x4), (5, .ref x5), (8, .int x8)] [] rfl (fun _ => rfl) rfl ?_
          refine dg_L (pc' := 150) [(8, .int (x8 + (1 : Int32))), (7, .int (d_X3_after (m.2.2.1 x0 7) x7 (m.1 (x5 + 1) (Int32.toNatClampNeg (x3 + x8))) m)), (9, .int (m.1 (x5 + 1) (Int32.toNatClampNeg (x3 + x8)))), (0, .ref x0), (3, .int x3), (4, .int x4), (5, .ref x5)] [] rfl (fun _ => rfl) rfl ?_
          refine dw_s (pc' := 86) [] rfl (fun _ => rfl) ?_
          exact dw_j rfl (fun lv1 hv => ih (d_X3_after (m.2.2.1 x0 7) x7 (m.1 (x5 + 1) (Int32.toNatClampNeg (x3 + x8))) m) (x8 + (1 : Int32)) lv1 (hv.1 _ rfl) (hv.2.1 _ rfl) (hv.2.2.1 _ rfl) (hv.2.2.2.1 _ rfl) (hv.2.2.2.2.1 _ rfl) (hv.2.2.2.2.2.1 _ rfl))
        · refine dw_g rfl ?_
          refine dg_s (pc' := 133) [.int x8] rfl (fun _ => rfl) rfl ?_
          exact dw_r (some (.inl (some (.int x8), m))) rfl (fun _ => rfl) (kR _)
noncomputable def d_X9_row (x0 : Nat) (x1 : Int32) (x2 : Int32) (x3 : Int32) (x4 : Int32) (m : dc_M) : Option Int32 :=
  (if (Int32.toInt (d_X9_isSheet x1 m)) = 0 then some ((-1 : Int32)) else (if (Int32.toInt (d_X9_isLane x2 m)) = 0 then some ((-1 : Int32)) else (if (Int32.toInt x4) < 0 then some ((-1 : Int32)) else (if (Int32.toInt x4) ≤ 64 then (if (Int32.toInt (d_X6_faultAs (m.2.2.1 (x0 + 39) (Int32.toNatClampNeg x1)) x2 m)) = 0 then (if (Int32.toInt x4) ≤ 0 then (d_X9_row_l86 x0 x3 x4 (m.2.2.1 (x0 + 39) (Int32.toNatClampNeg x1)) (m.1 (m.2.2.1 x0 7) 13) (0 : Int32) m) else (if ¬ (Int32.toInt (d_X6_hasCells (m.2.2.1 (x0 + 39) (Int32.toNatClampNeg x1)) x3 x4 m)) = 0 then (d_X9_row_l86 x0 x3 x4 (m.2.2.1 (x0 + 39) (Int32.toNatClampNeg x1)) (m.1 (m.2.2.1 x0 7) 13) (0 : Int32) m) else some ((-12 : Int32)))) else some (((-10 : Int32) - (d_X6_faultAs (m.2.2.1 (x0 + 39) (Int32.toNatClampNeg x1)) x2 m)))) else some ((-1 : Int32))))))
set_option maxHeartbeats 8000000 in
theorem k_X9_row {u : Nat} {N : Nat} {Φ : (Option Int32) → Option Value → dc_M → Prop} (x0 : Nat) (x1 : Int32) (x2 : Int32) (x3 : Int32) (x4 : Int32) (m : dc_M) (kR : ∀ (v : Int32), Φ (some (v)) (some (.int v)) m)  {lv : ab_L} (f0 : ab_lk lv 0 = some (.ref x0)) (f1 : ab_lk lv 1 = some (.int x1)) (f2 : ab_lk lv 2 = some (.int x2)) (f3 : ab_lk lv 3 = some (.int x3)) (f4 : ab_lk lv 4 = some (.int x4)) : dc_pv u N ab_M_X9_row 0 lv [] m (Φ (d_X9_row x0 x1 x2 x3 x4 m)) := by
  refine dc_pv.mono (dc_ok (C := C_X9_row) (S := S_X9_row) CO_X9_row 400 0 [(0, .ref x0), (1, .int x1), (2, .int x2), (3, .int x3), (4, .int x4)] lv [] m (dc_sub_cons f0 (dc_sub_cons f1 (dc_sub_cons f2 (dc_sub_cons f3 (dc_sub_cons f4 (dc_sub_nil)))))) ?_) (Nat.le_succ N)
  unfold d_X9_row
  refine dg_s (pc' := 1) [.int x1] rfl (fun _ => rfl) rfl ?_
  refine dg_s (pc' := 4) [.int (d_X9_isSheet x1 m)] rfl (fun _ => rfl) rfl ?_
  refine dw_if (fun t => Φ t) ((Int32.toInt (d_X9_isSheet x1 m)) = 0) [] 26 7 rfl (fun _ => rfl) (fun c0 => ?_) (fun c0 => ?_)
  · refine dw_g rfl ?_
    refine dg_s (pc' := 27) [.int (-1 : Int32)] rfl (fun _ => rfl) rfl ?_
    exact dw_r (some (.inl (some (.int (-1 : Int32)), m))) rfl (fun _ => rfl) (kR _)
  · refine dw_g rfl ?_
    refine dg_s (pc' := 8) [.int x2] rfl (fun _ => rfl) rfl ?_
    refine dg_s (pc' := 11) [.int (d_X9_isLane x2 m)] rfl (fun _ => rfl) rfl ?_
    refine dw_if (fun t => Φ t) ((Int32.toInt (d_X9_isLane x2 m)) = 0) [] 26 14 rfl (fun _ => rfl) (fun c1 => ?_) (fun c1 => ?_)
    · refine dw_g rfl ?_
      refine dg_s (pc' := 27) [.int (-1 : Int32)] rfl (fun _ => rfl) rfl ?_
      exact dw_r (some (.inl (some (.int (-1 : Int32)), m))) rfl (fun _ => rfl) (kR _)
    · refine dw_g rfl ?_
      refine dg_s (pc' := 16) [.int x4] rfl (fun _ => rfl) rfl ?_
      refine dw_if (fun t => Φ t) ((Int32.toInt x4) < 0) [] 26 19 rfl (fun _ => rfl) (fun c2 => ?_) (fun c2 => ?_)
      · refine dw_g rfl ?_
        refine dg_s (pc' := 27) [.int (-1 : Int32)] rfl (fun _ => rfl) rfl ?_
        exact dw_r (some (.inl (some (.int (-1 : Int32)), m))) rfl (fun _ => rfl) (kR _)
      · refine dw_g rfl ?_
        refine dg_s (pc' := 21) [.int x4] rfl (fun _ => rfl) rfl ?_
        refine dg_s (pc' := 23) [.int (64 : Int32), .int x4] rfl (fun _ => rfl) rfl ?_
        refine dw_if (fun t => Φ t) ((Int32.toInt x4) ≤ 64) [] 28 26 rfl (fun _ => rfl) (fun c3 => ?_) (fun c3 => ?_)
        · refine dw_g rfl ?_
          refine dg_s (pc' := 29) [.ref x0] rfl (fun _ => rfl) rfl ?_
          refine dg_s (pc' := 32) [.ref (x0 + 39)] rfl (fun _ => rfl) rfl ?_
          refine dg_s (pc' := 33) [.int x1, .ref (x0 + 39)] rfl (fun _ => rfl) rfl ?_
          refine dg_s (pc' := 34) [.ref (m.2.2.1 (x0 + 39) (Int32.toNatClampNeg x1))] rfl (fun _ => rfl) rfl ?_
          refine dg_L (pc' := 36) [(5, .ref (m.2.2.1 (x0 + 39) (Int32.toNatClampNeg x1))), (0, .ref x0), (1, .int x1), (2, .int x2), (3, .int x3), (4, .int x4)] [] rfl (fun _ => rfl) rfl ?_
          refine dg_s (pc' := 38) [.ref (m.2.2.1 (x0 + 39) (Int32.toNatClampNeg x1))] rfl (fun _ => rfl) rfl ?_
          refine dg_s (pc' := 39) [.int x2, .ref (m.2.2.1 (x0 + 39) (Int32.toNatClampNeg x1))] rfl (fun _ => rfl) rfl ?_
          refine dg_s (pc' := 42) [.int (d_X6_faultAs (m.2.2.1 (x0 + 39) (Int32.toNatClampNeg x1)) x2 m)] rfl (fun _ => rfl) rfl ?_
          refine dg_L (pc' := 44) [(6, .int (d_X6_faultAs (m.2.2.1 (x0 + 39) (Int32.toNatClampNeg x1)) x2 m)), (5, .ref (m.2.2.1 (x0 + 39) (Int32.toNatClampNeg x1))), (0, .ref x0), (1, .int x1), (2, .int x2), (3, .int x3), (4, .int x4)] [] rfl (fun _ => rfl) rfl ?_
          refine dg_s (pc' := 46) [.int (d_X6_faultAs (m.2.2.1 (x0 + 39) (Int32.toNatClampNeg x1)) x2 m)] rfl (fun _ => rfl) rfl ?_
          refine dw_if (fun t => Φ t) ((Int32.toInt (d_X6_faultAs (m.2.2.1 (x0 + 39) (Int32.toNatClampNeg x1)) x2 m)) = 0) [] 55 49 rfl (fun _ => rfl) (fun c4 => ?_) (fun c4 => ?_)
          · refine dw_g rfl ?_
            refine dg_s (pc' := 57) [.int x4] rfl (fun _ => rfl) rfl ?_
            refine dw_if (fun t => Φ t) ((Int32.toInt x4) ≤ 0) [] 74 60 rfl (fun _ => rfl) (fun c5 => ?_) (fun c5 => ?_)
            · refine dw_g rfl ?_
              refine dg_s (pc' := 75) [.ref x0] rfl (fun _ => rfl) rfl ?_
              refine dg_s (pc' := 78) [.ref (m.2.2.1 x0 7)] rfl (fun _ => rfl) rfl ?_
              refine dg_s (pc' := 81) [.int (m.1 (m.2.2.1 x0 7) 13)] rfl (fun _ => rfl) rfl ?_
              refine dg_L (pc' := 83) [(7, .int (m.1 (m.2.2.1 x0 7) 13)), (6, .int (d_X6_faultAs (m.2.2.1 (x0 + 39) (Int32.toNatClampNeg x1)) x2 m)), (5, .ref (m.2.2.1 (x0 + 39) (Int32.toNatClampNeg x1))), (0, .ref x0), (1, .int x1), (2, .int x2), (3, .int x3), (4, .int x4)] [] rfl (fun _ => rfl) rfl ?_
              refine dg_s (pc' := 84) [.int (0 : Int32)] rfl (fun _ => rfl) rfl ?_
              refine dw_L (pc' := 86) [(8, .int (0 : Int32)), (7, .int (m.1 (m.2.2.1 x0 7) 13)), (6, .int (d_X6_faultAs (m.2.2.1 (x0 + 39) (Int32.toNatClampNeg x1)) x2 m)), (5, .ref (m.2.2.1 (x0 + 39) (Int32.toNatClampNeg x1))), (0, .ref x0), (1, .int x1), (2, .int x2), (3, .int x3), (4, .int x4)] [] rfl (fun _ => rfl) ?_
              exact dw_j rfl (fun lv1 hv => k_X9_row_l86 (Φ := (fun t => Φ t)) x0 x3 x4 (m.2.2.1 (x0 + 39) (Int32.toNatClampNeg x1)) m (fun _a  => kR _a) N  (m.1 (m.2.2.1 x0 7) 13) (0 : Int32) lv1 (hv.1 _ rfl) (hv.2.1 _ rfl) (hv.2.2.1 _ rfl) (hv.2.2.2.1 _ rfl) (hv.2.2.2.2.1 _ rfl) (hv.2.2.2.2.2.1 _ rfl))
            · refine dw_g rfl ?_
              refine dg_s (pc' := 62) [.ref (m.2.2.1 (x0 + 39) (Int32.toNatClampNeg x1))] rfl (fun _ => rfl) rfl ?_
              refine dg_s (pc' := 63) [.int x3, .ref (m.2.2.1 (x0 + 39) (Int32.toNatClampNeg x1))] rfl (fun _ => rfl) rfl ?_
              refine dg_s (pc' := 65) [.int x4, .int x3, .ref (m.2.2.1 (x0 + 39) (Int32.toNatClampNeg x1))] rfl (fun _ => rfl) rfl ?_
              refine dg_s (pc' := 68) [.int (d_X6_hasCells (m.2.2.1 (x0 + 39) (Int32.toNatClampNeg x1)) x3 x4 m)] rfl (fun _ => rfl) rfl ?_
              refine dw_if (fun t => Φ t) (¬ (Int32.toInt (d_X6_hasCells (m.2.2.1 (x0 + 39) (Int32.toNatClampNeg x1)) x3 x4 m)) = 0) [] 74 71 rfl (fun _ => rfl) (fun c6 => ?_) (fun c6 => ?_)
              · refine dw_g rfl ?_
                refine dg_s (pc' := 75) [.ref x0] rfl (fun _ => rfl) rfl ?_
                refine dg_s (pc' := 78) [.ref (m.2.2.1 x0 7)] rfl (fun _ => rfl) rfl ?_
                refine dg_s (pc' := 81) [.int (m.1 (m.2.2.1 x0 7) 13)] rfl (fun _ => rfl) rfl ?_
                refine dg_L (pc' := 83) [(7, .int (m.1 (m.2.2.1 x0 7) 13)), (6, .int (d_X6_faultAs (m.2.2.1 (x0 + 39) (Int32.toNatClampNeg x1)) x2 m)), (5, .ref (m.2.2.1 (x0 + 39) (Int32.toNatClampNeg x1))), (0, .ref x0), (1, .int x1), (2, .int x2), (3, .int x3), (4, .int x4)] [] rfl (fun _ => rfl) rfl ?_
                refine dg_s (pc' := 84) [.int (0 : Int32)] rfl (fun _ => rfl) rfl ?_
                refine dw_L (pc' := 86) [(8, .int (0 : Int32)), (7, .int (m.1 (m.2.2.1 x0 7) 13)), (6, .int (d_X6_faultAs (m.2.2.1 (x0 + 39) (Int32.toNatClampNeg x1)) x2 m)), (5, .ref (m.2.2.1 (x0 + 39) (Int32.toNatClampNeg x1))), (0, .ref x0), (1, .int x1), (2, .int x2), (3, .int x3), (4, .int x4)] [] rfl (fun _ => rfl) ?_
                exact dw_j rfl (fun lv1 hv => k_X9_row_l86 (Φ := (fun t => Φ t)) x0 x3 x4 (m.2.2.1 (x0 + 39) (Int32.toNatClampNeg x1)) m (fun _a  => kR _a) N  (m.1 (m.2.2.1 x0 7) 13) (0 : Int32) lv1 (hv.1 _ rfl) (hv.2.1 _ rfl) (hv.2.2.1 _ rfl) (hv.2.2.2.1 _ rfl) (hv.2.2.2.2.1 _ rfl) (hv.2.2.2.2.2.1 _ rfl))
              · refine dw_g rfl ?_
                refine dg_s (pc' := 73) [.int (-12 : Int32)] rfl (fun _ => rfl) rfl ?_
                exact dw_r (some (.inl (some (.int (-12 : Int32)), m))) rfl (fun _ => rfl) (kR _)
          · refine dw_g rfl ?_
            refine dg_s (pc' := 51) [.int (-10 : Int32)] rfl (fun _ => rfl) rfl ?_
            refine dg_s (pc' := 53) [.int (d_X6_faultAs (m.2.2.1 (x0 + 39) (Int32.toNatClampNeg x1)) x2 m), .int (-10 : Int32)] rfl (fun _ => rfl) rfl ?_
            refine dg_s (pc' := 54) [.int ((-10 : Int32) - (d_X6_faultAs (m.2.2.1 (x0 + 39) (Int32.toNatClampNeg x1)) x2 m))] rfl (fun _ => rfl) rfl ?_
            exact dw_r (some (.inl (some (.int ((-10 : Int32) - (d_X6_faultAs (m.2.2.1 (x0 + 39) (Int32.toNatClampNeg x1)) x2 m))), m))) rfl (fun _ => rfl) (kR _)
        · refine dw_g rfl ?_
          refine dg_s (pc' := 27) [.int (-1 : Int32)] rfl (fun _ => rfl) rfl ?_
          exact dw_r (some (.inl (some (.int (-1 : Int32)), m))) rfl (fun _ => rfl) (kR _)
noncomputable def H_X9_row : dc_H := fun As m k => match As with
  | [.ref x0, .int x1, .int x2, .int x3, .int x4] => (d_X9_row x0 x1 x2 x3 x4 m).bind (fun q => k (some (.int q)) m)
  | _ => dc_kz
theorem H_X9_row_ok {u : Nat} : dc_cok u 129 H_X9_row := fun M' hG N As m k P hz hP => by
  obtain rfl : ab_M_X9_row = M' := Option.some.inj hG
  unfold H_X9_row at hP
  split at hP
  · rename_i x0 x1 x2 x3 x4
    exact dc_pv.imp (k_X9_row (Φ := fun (t : Option Int32) r m' => P (t.bind (fun q => k (some (.int q)) m)) → P (k r m')) x0 x1 x2 x3 x4 m (fun _  h => h) rfl rfl rfl rfl rfl) (fun r m' h => h hP)
  · exact absurd hP hz
def C_X10_row : List (Nat × dc_H) := [(171, H_X10_after), (146, H_X10_in), (163, H_X10_isEvent), (169, H_X10_isReady), (170, H_X10_isUnsafe)]
theorem CO_X10_row {u : Nat} : dc_CO u C_X10_row := dc_CO_cons H_X10_after_ok (dc_CO_cons H_X10_in_ok (dc_CO_cons H_X10_isEvent_ok (dc_CO_cons H_X10_isReady_ok (dc_CO_cons H_X10_isUnsafe_ok (dc_CO_nil)))))
def S_X10_row : List (Nat × List Nat) := [(71, [0, 1, 3, 4, 5]), (118, [0, 1, 3, 4, 5, 6])]
noncomputable def d_X10_row_l118b (x0 : Nat) (x1 : Int32) (x3 : Int32) (x4 : Int32) (x5 : Int32) (x6 : Int32) (m : dc_M) : Option ((Int32 × Int32) ⊕ Int32) :=
  (if (Int32.toInt x4) ≤ (Int32.toInt x6) then some (Sum.inr ((-4 : Int32))) else (if (Int32.toInt (d_X10_isEvent x0 (m.1 (x0 + 37) (Int32.toNatClampNeg ((((64 : Int32) * x1) + x3) + x6))) m)) = 0 then some (Sum.inr (x6)) else (if (Int32.toInt (d_X10_isReady x0 (m.1 (x0 + 37) (Int32.toNatClampNeg ((((64 : Int32) * x1) + x3) + x6))) x5 m)) = 0 then some (Sum.inr (x6)) else (if (Int32.toInt (d_X10_isUnsafe x0 (m.1 (x0 + 37) (Int32.toNatClampNeg ((((64 : Int32) * x1) + x3) + x6))) x5 m)) = 0 then some (Sum.inl ((d_X10_after x0 (m.1 (x0 + 37) (Int32.toNatClampNeg ((((64 : Int32) * x1) + x3) + x6))) x5 m), (x6 + (1 : Int32)))) else some (Sum.inr (x6))))))
noncomputable def d_X10_row_l118s (x0 : Nat) (x1 : Int32) (x3 : Int32) (x4 : Int32) (m : dc_M) : (Int32 × Int32) → Option ((Int32 × Int32) ⊕ Int32) := fun s => d_X10_row_l118b x0 x1 x3 x4 s.1 s.2 m
noncomputable def d_X10_row_l118 (x0 : Nat) (x1 : Int32) (x3 : Int32) (x4 : Int32) (x5 : Int32) (x6 : Int32) (m : dc_M) : Option Int32 := dc_lp (d_X10_row_l118s x0 x1 x3 x4 m) (x5, x6)
set_option maxHeartbeats 8000000 in
theorem k_X10_row_l118 {u : Nat} {Φ : (Option Int32) → Option Value → dc_M → Prop} (x0 : Nat) (x1 : Int32) (x3 : Int32) (x4 : Int32) (m : dc_M) (kR : ∀ (v : Int32), Φ (some (v)) (some (.int v)) m) : ∀ (N : Nat), ∀ (x5 : Int32) (x6 : Int32) (lv : ab_L), ab_lk lv 0 = some (.ref x0) → ab_lk lv 1 = some (.int x1) → ab_lk lv 3 = some (.int x3) → ab_lk lv 4 = some (.int x4) → ab_lk lv 5 = some (.int x5) → ab_lk lv 6 = some (.int x6) → dc_pv u N ab_M_X10_row 118 lv [] m (Φ (d_X10_row_l118 x0 x1 x3 x4 x5 x6 m)) := by
  intro N
  induction N with
  | zero => intros; exact dc_pv_zero
  | succ N ih =>
    intro x5 x6 lv f0 f1 f3 f4 f5 f6
    refine dc_ok (C := C_X10_row) (S := S_X10_row) CO_X10_row 400 118 [(0, .ref x0), (1, .int x1), (3, .int x3), (4, .int x4), (5, .int x5), (6, .int x6)] lv [] m (dc_sub_cons f0 (dc_sub_cons f1 (dc_sub_cons f3 (dc_sub_cons f4 (dc_sub_cons f5 (dc_sub_cons f6 (dc_sub_nil))))))) ?_
    unfold d_X10_row_l118
    rw [dc_lp_eq]
    show (fun t x => dc_lf u N ab_M_X10_row (Φ (Option.bind t (dc_bk (d_X10_row_l118s x0 x1 x3 x4 m)))) x) (d_X10_row_l118b x0 x1 x3 x4 x5 x6 m) _
    dsimp only
    unfold d_X10_row_l118b
    refine dg_s (pc' := 120) [.int x6] rfl (fun _ => rfl) rfl ?_
    refine dg_s (pc' := 122) [.int x4, .int x6] rfl (fun _ => rfl) rfl ?_
    refine dw_if (fun t => Φ (Option.bind t (dc_bk (d_X10_row_l118s x0 x1 x3 x4 m)))) ((Int32.toInt x4) ≤ (Int32.toInt x6)) [] 191 125 rfl (fun _ => rfl) (fun c0 => ?_) (fun c0 => ?_)
    · refine dw_g rfl ?_
      refine dg_s (pc' := 193) [.int (-4 : Int32)] rfl (fun _ => rfl) rfl ?_
      exact dw_r (some (.inl (some (.int (-4 : Int32)), m))) rfl (fun _ => rfl) (kR _)
    · refine dw_g rfl ?_
      refine dg_s (pc' := 126) [.ref x0] rfl (fun _ => rfl) rfl ?_
      refine dg_s (pc' := 129) [.ref (x0 + 37)] rfl (fun _ => rfl) rfl ?_
      refine dg_s (pc' := 131) [.int (64 : Int32), .ref (x0 + 37)] rfl (fun _ => rfl) rfl ?_
      refine dg_s (pc' := 132) [.int x1, .int (64 : Int32), .ref (x0 + 37)] rfl (fun _ => rfl) rfl ?_
      refine dg_s (pc' := 133) [.int ((64 : Int32) * x1), .ref (x0 + 37)] rfl (fun _ => rfl) rfl ?_
      refine dg_s (pc' := 134) [.int x3, .int ((64 : Int32) * x1), .ref (x0 + 37)] rfl (fun _ => rfl) rfl ?_
      refine dg_s (pc' := 135) [.int (((64 : Int32) * x1) + x3), .ref (x0 + 37)] rfl (fun _ => rfl) rfl ?_
      refine dg_s (pc' := 137) [.int x6, .int (((64 : Int32) * x1) + x3), .ref (x0 + 37)] rfl (fun _ => rfl) rfl ?_
      refine dg_s (pc' := 138) [.int ((((64 : Int32) * x1) + x3) + x6), .ref (x0 + 37)] rfl (fun _ => rfl) rfl ?_
      refine dg_s (pc' := 139) [.int (m.1 (x0 + 37) (Int32.toNatClampNeg ((((64 : Int32) * x1) + x3) + x6)))] rfl (fun _ => rfl) rfl ?_
      refine dg_L (pc' := 141) [(7, .int (m.1 (x0 + 37) (Int32.toNatClampNeg ((((64 : Int32) * x1) + x3) + x6)))), (0, .ref x0), (1, .int x1), (3, .int x3), (4, .int x4), (5, .int x5), (6, .int x6)] [] rfl (fun _ => rfl) rfl ?_
      refine dg_s (pc' := 142) [.ref x0] rfl (fun _ => rfl) rfl ?_
      refine dg_s (pc' := 144) [.int (m.1 (x0 + 37) (Int32.toNatClampNeg ((((64 : Int32) * x1) + x3) + x6))), .ref x0] rfl (fun _ => rfl) rfl ?_
      refine dg_s (pc' := 147) [.int (d_X10_isEvent x0 (m.1 (x0 + 37) (Int32.toNatClampNeg ((((64 : Int32) * x1) + x3) + x6))) m)] rfl (fun _ => rfl) rfl ?_
      refine dw_if (fun t => Φ (Option.bind t (dc_bk (d_X10_row_l118s x0 x1 x3 x4 m)))) ((Int32.toInt (d_X10_isEvent x0 (m.1 (x0 + 37) (Int32.toNatClampNeg ((((64 : Int32) * x1) + x3) + x6))) m)) = 0) [] 172 150 rfl (fun _ => rfl) (fun c1 => ?_) (fun c1 => ?_)
      · refine dw_g rfl ?_
        refine dg_s (pc' := 174) [.int x6] rfl (fun _ => rfl) rfl ?_
        exact dw_r (some (.inl (some (.int x6), m))) rfl (fun _ => rfl) (kR _)
      · refine dw_g rfl ?_
        refine dg_s (pc' := 151) [.ref x0] rfl (fun _ => rfl) rfl ?_
        refine dg_s (pc' := 153) [.int (m.1 (x0 + 37) (Int32.toNatClampNeg ((((64 : Int32) * x1) + x3) + x6))), .ref x0] rfl (fun _ => rfl) rfl ?_
        refine dg_s (pc' := 155) [.int x5, .int (m.1 (x0 + 37) (Int32.toNatClampNeg ((((64 : Int32) * x1) + x3) + x6))), .ref x0] rfl (fun _ => rfl) rfl ?_
        refine dg_s (pc' := 158) [.int (d_X10_isReady x0 (m.1 (x0 + 37) (Int32.toNatClampNeg ((((64 : Int32) * x1) + x3) + x6))) x5 m)] rfl (fun _ => rfl) rfl ?_
        refine dw_if (fun t => Φ (Option.bind t (dc_bk (d_X10_row_l118s x0 x1 x3 x4 m)))) ((Int32.toInt (d_X10_isReady x0 (m.1 (x0 + 37) (Int32.toNatClampNeg ((((64 : Int32) * x1) + x3) + x6))) x5 m)) = 0) [] 172 161 rfl (fun _ => rfl) (fun c2 => ?_) (fun c2 => ?_)
        · refine dw_g rfl ?_
          refine dg_s (pc' := 174) [.int x6] rfl (fun _ => rfl) rfl ?_
          exact dw_r (some (.inl (some (.int x6), m))) rfl (fun _ => rfl) (kR _)
        · refine dw_g rfl ?_
          refine dg_s (pc' := 162) [.ref x0] rfl (fun _ => rfl) rfl ?_
          refine dg_s (pc' := 164) [.int (m.1 (x0 + 37) (Int32.toNatClampNeg ((((64 : Int32) * x1) + x3) + x6))), .ref x0] rfl (fun _ => rfl) rfl ?_
          refine dg_s (pc' := 166) [.int x5, .int (m.1 (x0 + 37) (Int32.toNatClampNeg ((((64 : Int32) * x1) + x3) + x6))), .ref x0] rfl (fun _ => rfl) rfl ?_
          refine dg_s (pc' := 169) [.int (d_X10_isUnsafe x0 (m.1 (x0 + 37) (Int32.toNatClampNeg ((((64 : Int32) * x1) + x3) + x6))) x5 m)] rfl (fun _ => rfl) rfl ?_
          refine dw_if (fun t => Φ (Option.bind t (dc_bk (d_X10_row_l118s x0 x1 x3 x4 m)))) ((Int32.toInt (d_X10_isUnsafe x0 (m.1 (x0 + 37) (Int32.toNatClampNeg ((((64 : Int32) * x1) + x3) + x6))) x5 m)) = 0) [] 175 172 rfl (fun _ => rfl) (fun c3 => ?_) (fun c3 => ?_)
          · refine dw_g rfl ?_
            refine dg_s (pc' := 176) [.ref x0] rfl (fun _ => rfl) rfl ?_
            refine dg_s (pc' := 178) [.int (m.1 (x0 + 37) (Int32.toNatClampNeg ((((64 : Int32) * x1) + x3) + x6))), .ref x0] rfl (fun _ => rfl) rfl ?_
            refine dg_s (pc' := 180) [.int x5, .int (m.1 (x0 + 37) (Int32.toNatClampNeg ((((64 : Int32) * x1) + x3) + x6))), .ref x0] rfl (fun _ => rfl) rfl ?_
            refine dg_s (pc' := 183) [.int (d_X10_after x0 (m.1 (x0 + 37) (Int32.toNatClampNeg ((((64 : Int32) * x1) + x3) + x6))) x5 m)] rfl (fun _ => rfl) rfl ?_
            refine dg_L (pc' := 185) [(5, .int (d_X10_after x0 (m.1 (x0 + 37) (Int32.toNatClampNeg ((((64 : Int32) * x1) + x3) + x6))) x5 m)), (7, .int (m.1 (x0 + 37) (Int32.toNatClampNeg ((((64 : Int32) * x1) + x3) + x6)))), (0, .ref x0), (1, .int x1), (3, .int x3), (4, .int x4), (6, .int x6)] [] rfl (fun _ => rfl) rfl ?_
            refine dg_L (pc' := 188) [(6, .int (x6 + (1 : Int32))), (5, .int (d_X10_after x0 (m.1 (x0 + 37) (Int32.toNatClampNeg ((((64 : Int32) * x1) + x3) + x6))) x5 m)), (7, .int (m.1 (x0 + 37) (Int32.toNatClampNeg ((((64 : Int32) * x1) + x3) + x6)))), (0, .ref x0), (1, .int x1), (3, .int x3), (4, .int x4)] [] rfl (fun _ => rfl) rfl ?_
            refine dw_s (pc' := 118) [] rfl (fun _ => rfl) ?_
            exact dw_j rfl (fun lv1 hv => ih (d_X10_after x0 (m.1 (x0 + 37) (Int32.toNatClampNeg ((((64 : Int32) * x1) + x3) + x6))) x5 m) (x6 + (1 : Int32)) lv1 (hv.1 _ rfl) (hv.2.1 _ rfl) (hv.2.2.1 _ rfl) (hv.2.2.2.1 _ rfl) (hv.2.2.2.2.1 _ rfl) (hv.2.2.2.2.2.1 _ rfl))
          · refine dw_g rfl ?_
            refine dg_s (pc' := 174) [.int x6] rfl (fun _ => rfl) rfl ?_
            exact dw_r (some (.inl (some (.int x6), m))) rfl (fun _ => rfl) (kR _)
noncomputable def d_X10_row_l71b (x0 : Nat) (x1 : Int32) (x3 : Int32) (x4 : Int32) (x5 : Int32) (m : dc_M) : Option (Int32 ⊕ Int32) :=
  (if (Int32.toInt x4) ≤ (Int32.toInt x5) then ((d_X10_row_l118 x0 x1 x3 x4 (m.1 x0 11) (0 : Int32) m).map (fun z => Sum.inr (z))) else (if ¬ (Int32.toInt (d_X10_in ((Int32.toInt64 x3) + (Int32.toInt64 x5)) (0 : Int64) (Int32.toInt64 ((m.1 (x0 + 36) (Int32.toNatClampNeg x1)) - (1 : Int32))) m)) = 0 then some (Sum.inl (x5 + (1 : Int32))) else some (Sum.inr ((-12 : Int32)))))
noncomputable def d_X10_row_l71s (x0 : Nat) (x1 : Int32) (x3 : Int32) (x4 : Int32) (m : dc_M) : Int32 → Option (Int32 ⊕ Int32) := fun s => d_X10_row_l71b x0 x1 x3 x4 s m
noncomputable def d_X10_row_l71 (x0 : Nat) (x1 : Int32) (x3 : Int32) (x4 : Int32) (x5 : Int32) (m : dc_M) : Option Int32 := dc_lp (d_X10_row_l71s x0 x1 x3 x4 m) x5
set_option maxHeartbeats 8000000 in
theorem k_X10_row_l71 {u : Nat} {Φ : (Option Int32) → Option Value → dc_M → Prop} (x0 : Nat) (x1 : Int32) (x3 : Int32) (x4 : Int32) (m : dc_M) (kR : ∀ (v : Int32), Φ (some (v)) (some (.int v)) m) : ∀ (N : Nat), ∀ (x5 : Int32) (lv : ab_L), ab_lk lv 0 = some (.ref x0) → ab_lk lv 1 = some (.int x1) → ab_lk lv 3 = some (.int x3) → ab_lk lv 4 = some (.int x4) → ab_lk lv 5 = some (.int x5) → dc_pv u N ab_M_X10_row 71 lv [] m (Φ (d_X10_row_l71 x0 x1 x3 x4 x5 m)) := by
  intro N
  induction N with
  | zero => intros; exact dc_pv_zero
  | succ N ih =>
    intro x5 lv f0 f1 f3 f4 f5
    refine dc_ok (C := C_X10_row) (S := S_X10_row) CO_X10_row 400 71 [(0, .ref x0), (1, .int x1), (3, .int x3), (4, .int x4), (5, .int x5)] lv [] m (dc_sub_cons f0 (dc_sub_cons f1 (dc_sub_cons f3 (dc_sub_cons f4 (dc_sub_cons f5 (dc_sub_nil)))))) ?_
    unfold d_X10_row_l71
    rw [dc_lp_eq]
    show (fun t x => dc_lf u N ab_M_X10_row (Φ (Option.bind t (dc_bk (d_X10_row_l71s x0 x1 x3 x4 m)))) x) (d_X10_row_l71b x0 x1 x3 x4 x5 m) _
    dsimp only
    unfold d_X10_row_l71b
    refine dg_s (pc' := 73) [.int x5] rfl (fun _ => rfl) rfl ?_
    refine dg_s (pc' := 75) [.int x4, .int x5] rfl (fun _ => rfl) rfl ?_
    refine dw_if (fun t => Φ (Option.bind t (dc_bk (d_X10_row_l71s x0 x1 x3 x4 m)))) ((Int32.toInt x4) ≤ (Int32.toInt x5)) [] 109 78 rfl (fun _ => rfl) (fun c0 => ?_) (fun c0 => ?_)
    · refine dw_g rfl ?_
      refine dg_s (pc' := 110) [.ref x0] rfl (fun _ => rfl) rfl ?_
      refine dg_s (pc' := 113) [.int (m.1 x0 11)] rfl (fun _ => rfl) rfl ?_
      refine dg_L (pc' := 115) [(5, .int (m.1 x0 11)), (0, .ref x0), (1, .int x1), (3, .int x3), (4, .int x4)] [] rfl (fun _ => rfl) rfl ?_
      refine dg_s (pc' := 116) [.int (0 : Int32)] rfl (fun _ => rfl) rfl ?_
      refine dw_L (pc' := 118) [(6, .int (0 : Int32)), (5, .int (m.1 x0 11)), (0, .ref x0), (1, .int x1), (3, .int x3), (4, .int x4)] [] rfl (fun _ => rfl) ?_
      exact dw_j rfl (fun lv1 hv => k_X10_row_l118 (Φ := (fun t => Φ (Option.bind (t.map (fun z => Sum.inr (z))) (dc_bk (d_X10_row_l71s x0 x1 x3 x4 m))))) x0 x1 x3 x4 m (fun _a  => kR _a) N  (m.1 x0 11) (0 : Int32) lv1 (hv.1 _ rfl) (hv.2.1 _ rfl) (hv.2.2.1 _ rfl) (hv.2.2.2.1 _ rfl) (hv.2.2.2.2.1 _ rfl) (hv.2.2.2.2.2.1 _ rfl))
    · refine dw_g rfl ?_
      refine dg_s (pc' := 79) [.int x3] rfl (fun _ => rfl) rfl ?_
      refine dg_s (pc' := 80) [.long (Int32.toInt64 x3)] rfl (fun _ => rfl) rfl ?_
      refine dg_s (pc' := 82) [.int x5, .long (Int32.toInt64 x3)] rfl (fun _ => rfl) rfl ?_
      refine dg_s (pc' := 83) [.long (Int32.toInt64 x5), .long (Int32.toInt64 x3)] rfl (fun _ => rfl) rfl ?_
      refine dg_s (pc' := 84) [.long ((Int32.toInt64 x3) + (Int32.toInt64 x5))] rfl (fun _ => rfl) rfl ?_
      refine dg_s (pc' := 85) [.long (0 : Int64), .long ((Int32.toInt64 x3) + (Int32.toInt64 x5))] rfl (fun _ => rfl) rfl ?_
      refine dg_s (pc' := 86) [.ref x0, .long (0 : Int64), .long ((Int32.toInt64 x3) + (Int32.toInt64 x5))] rfl (fun _ => rfl) rfl ?_
      refine dg_s (pc' := 89) [.ref (x0 + 36), .long (0 : Int64), .long ((Int32.toInt64 x3) + (Int32.toInt64 x5))] rfl (fun _ => rfl) rfl ?_
      refine dg_s (pc' := 90) [.int x1, .ref (x0 + 36), .long (0 : Int64), .long ((Int32.toInt64 x3) + (Int32.toInt64 x5))] rfl (fun _ => rfl) rfl ?_
      refine dg_s (pc' := 91) [.int (m.1 (x0 + 36) (Int32.toNatClampNeg x1)), .long (0 : Int64), .long ((Int32.toInt64 x3) + (Int32.toInt64 x5))] rfl (fun _ => rfl) rfl ?_
      refine dg_s (pc' := 92) [.int (1 : Int32), .int (m.1 (x0 + 36) (Int32.toNatClampNeg x1)), .long (0 : Int64), .long ((Int32.toInt64 x3) + (Int32.toInt64 x5))] rfl (fun _ => rfl) rfl ?_
      refine dg_s (pc' := 93) [.int ((m.1 (x0 + 36) (Int32.toNatClampNeg x1)) - (1 : Int32)), .long (0 : Int64), .long ((Int32.toInt64 x3) + (Int32.toInt64 x5))] rfl (fun _ => rfl) rfl ?_
      refine dg_s (pc' := 94) [.long (Int32.toInt64 ((m.1 (x0 + 36) (Int32.toNatClampNeg x1)) - (1 : Int32))), .long (0 : Int64), .long ((Int32.toInt64 x3) + (Int32.toInt64 x5))] rfl (fun _ => rfl) rfl ?_
      refine dg_s (pc' := 97) [.int (d_X10_in ((Int32.toInt64 x3) + (Int32.toInt64 x5)) (0 : Int64) (Int32.toInt64 ((m.1 (x0 + 36) (Int32.toNatClampNeg x1)) - (1 : Int32))) m)] rfl (fun _ => rfl) rfl ?_
      refine dw_if (fun t => Φ (Option.bind t (dc_bk (d_X10_row_l71s x0 x1 x3 x4 m)))) (¬ (Int32.toInt (d_X10_in ((Int32.toInt64 x3) + (Int32.toInt64 x5)) (0 : Int64) (Int32.toInt64 ((m.1 (x0 + 36) (Int32.toNatClampNeg x1)) - (1 : Int32))) m)) = 0) [] 103 100 rfl (fun _ => rfl) (fun c1 => ?_) (fun c1 => ?_)
      · refine dw_g rfl ?_
        refine dg_L (pc' := 106) [(5, .int (x5 + (1 : Int32))), (0, .ref x0), (1, .int x1), (3, .int x3), (4, .int x4)] [] rfl (fun _ => rfl) rfl ?_
        refine dw_s (pc' := 71) [] rfl (fun _ => rfl) ?_
        exact dw_j rfl (fun lv1 hv => ih (x5 + (1 : Int32)) lv1 (hv.1 _ rfl) (hv.2.1 _ rfl) (hv.2.2.1 _ rfl) (hv.2.2.2.1 _ rfl) (hv.2.2.2.2.1 _ rfl))
      · refine dw_g rfl ?_
        refine dg_s (pc' := 102) [.int (-12 : Int32)] rfl (fun _ => rfl) rfl ?_
        exact dw_r (some (.inl (some (.int (-12 : Int32)), m))) rfl (fun _ => rfl) (kR _)
noncomputable def d_X10_row (x0 : Nat) (x1 : Int32) (x2 : Int32) (x3 : Int32) (x4 : Int32) (m : dc_M) : Option Int32 :=
  (if (Int32.toInt (d_X10_in (Int32.toInt64 x1) (0 : Int64) (3 : Int64) m)) = 0 then some ((-1 : Int32)) else (if (Int32.toInt (d_X10_in (Int32.toInt64 x2) (0 : Int64) (2 : Int64) m)) = 0 then some ((-1 : Int32)) else (if ¬ (Int32.toInt (d_X10_in (Int32.toInt64 x4) (0 : Int64) (64 : Int64) m)) = 0 then (if (Int32.toInt (m.1 (x0 + 35) (Int32.toNatClampNeg x1))) = (Int32.toInt x2) then (d_X10_row_l71 x0 x1 x3 x4 (0 : Int32) m) else (if ¬ (Int32.toInt (m.1 (x0 + 35) (Int32.toNatClampNeg x1))) = (-4) then some ((-13 : Int32)) else some ((-11 : Int32)))) else some ((-1 : Int32)))))
set_option maxHeartbeats 8000000 in
theorem k_X10_row {u : Nat} {N : Nat} {Φ : (Option Int32) → Option Value → dc_M → Prop} (x0 : Nat) (x1 : Int32) (x2 : Int32) (x3 : Int32) (x4 : Int32) (m : dc_M) (kR : ∀ (v : Int32), Φ (some (v)) (some (.int v)) m)  {lv : ab_L} (f0 : ab_lk lv 0 = some (.ref x0)) (f1 : ab_lk lv 1 = some (.int x1)) (f2 : ab_lk lv 2 = some (.int x2)) (f3 : ab_lk lv 3 = some (.int x3)) (f4 : ab_lk lv 4 = some (.int x4)) : dc_pv u N ab_M_X10_row 0 lv [] m (Φ (d_X10_row x0 x1 x2 x3 x4 m)) := by
  refine dc_pv.mono (dc_ok (C := C_X10_row) (S := S_X10_row) CO_X10_row 400 0 [(0, .ref x0), (1, .int x1), (2, .int x2), (3, .int x3), (4, .int x4)] lv [] m (dc_sub_cons f0 (dc_sub_cons f1 (dc_sub_cons f2 (dc_sub_cons f3 (dc_sub_cons f4 (dc_sub_nil)))))) ?_) (Nat.le_succ N)
  unfold d_X10_row
  refine dg_s (pc' := 1) [.int x1] rfl (fun _ => rfl) rfl ?_
  refine dg_s (pc' := 2) [.long (Int32.toInt64 x1)] rfl (fun _ => rfl) rfl ?_
  refine dg_s (pc' := 3) [.long (0 : Int64), .long (Int32.toInt64 x1)] rfl (fun _ => rfl) rfl ?_
  refine dg_s (pc' := 6) [.long (3 : Int64), .long (0 : Int64), .long (Int32.toInt64 x1)] rfl (fun _ => rfl) rfl ?_
  refine dg_s (pc' := 9) [.int (d_X10_in (Int32.toInt64 x1) (0 : Int64) (3 : Int64) m)] rfl (fun _ => rfl) rfl ?_
  refine dw_if (fun t => Φ t) ((Int32.toInt (d_X10_in (Int32.toInt64 x1) (0 : Int64) (3 : Int64) m)) = 0) [] 37 12 rfl (fun _ => rfl) (fun c0 => ?_) (fun c0 => ?_)
  · refine dw_g rfl ?_
    refine dg_s (pc' := 38) [.int (-1 : Int32)] rfl (fun _ => rfl) rfl ?_
    exact dw_r (some (.inl (some (.int (-1 : Int32)), m))) rfl (fun _ => rfl) (kR _)
  · refine dw_g rfl ?_
    refine dg_s (pc' := 13) [.int x2] rfl (fun _ => rfl) rfl ?_
    refine dg_s (pc' := 14) [.long (Int32.toInt64 x2)] rfl (fun _ => rfl) rfl ?_
    refine dg_s (pc' := 15) [.long (0 : Int64), .long (Int32.toInt64 x2)] rfl (fun _ => rfl) rfl ?_
    refine dg_s (pc' := 18) [.long (2 : Int64), .long (0 : Int64), .long (Int32.toInt64 x2)] rfl (fun _ => rfl) rfl ?_
    refine dg_s (pc' := 21) [.int (d_X10_in (Int32.toInt64 x2) (0 : Int64) (2 : Int64) m)] rfl (fun _ => rfl) rfl ?_
    refine dw_if (fun t => Φ t) ((Int32.toInt (d_X10_in (Int32.toInt64 x2) (0 : Int64) (2 : Int64) m)) = 0) [] 37 24 rfl (fun _ => rfl) (fun c1 => ?_) (fun c1 => ?_)
    · refine dw_g rfl ?_
      refine dg_s (pc' := 38) [.int (-1 : Int32)] rfl (fun _ => rfl) rfl ?_
      exact dw_r (some (.inl (some (.int (-1 : Int32)), m))) rfl (fun _ => rfl) (kR _)
    · refine dw_g rfl ?_
      refine dg_s (pc' := 26) [.int x4] rfl (fun _ => rfl) rfl ?_
      refine dg_s (pc' := 27) [.long (Int32.toInt64 x4)] rfl (fun _ => rfl) rfl ?_
      refine dg_s (pc' := 28) [.long (0 : Int64), .long (Int32.toInt64 x4)] rfl (fun _ => rfl) rfl ?_
      refine dg_s (pc' := 31) [.long (64 : Int64), .long (0 : Int64), .long (Int32.toInt64 x4)] rfl (fun _ => rfl) rfl ?_
      refine dg_s (pc' := 34) [.int (d_X10_in (Int32.toInt64 x4) (0 : Int64) (64 : Int64) m)] rfl (fun _ => rfl) rfl ?_
      refine dw_if (fun t => Φ t) (¬ (Int32.toInt (d_X10_in (Int32.toInt64 x4) (0 : Int64) (64 : Int64) m)) = 0) [] 39 37 rfl (fun _ => rfl) (fun c2 => ?_) (fun c2 => ?_)
      · refine dw_g rfl ?_
        refine dg_s (pc' := 40) [.ref x0] rfl (fun _ => rfl) rfl ?_
        refine dg_s (pc' := 43) [.ref (x0 + 35)] rfl (fun _ => rfl) rfl ?_
        refine dg_s (pc' := 44) [.int x1, .ref (x0 + 35)] rfl (fun _ => rfl) rfl ?_
        refine dg_s (pc' := 45) [.int (m.1 (x0 + 35) (Int32.toNatClampNeg x1))] rfl (fun _ => rfl) rfl ?_
        refine dg_s (pc' := 46) [.int x2, .int (m.1 (x0 + 35) (Int32.toNatClampNeg x1))] rfl (fun _ => rfl) rfl ?_
        refine dw_if (fun t => Φ t) ((Int32.toInt (m.1 (x0 + 35) (Int32.toNatClampNeg x1))) = (Int32.toInt x2)) [] 68 49 rfl (fun _ => rfl) (fun c3 => ?_) (fun c3 => ?_)
        · refine dw_g rfl ?_
          refine dg_s (pc' := 69) [.int (0 : Int32)] rfl (fun _ => rfl) rfl ?_
          refine dw_L (pc' := 71) [(5, .int (0 : Int32)), (0, .ref x0), (1, .int x1), (2, .int x2), (3, .int x3), (4, .int x4)] [] rfl (fun _ => rfl) ?_
          exact dw_j rfl (fun lv1 hv => k_X10_row_l71 (Φ := (fun t => Φ t)) x0 x1 x3 x4 m (fun _a  => kR _a) N  (0 : Int32) lv1 (hv.1 _ rfl) (hv.2.1 _ rfl) (hv.2.2.1 _ rfl) (hv.2.2.2.1 _ rfl) (hv.2.2.2.2.1 _ rfl))
        · refine dw_g rfl ?_
          refine dg_s (pc' := 50) [.ref x0] rfl (fun _ => rfl) rfl ?_
          refine dg_s (pc' := 53) [.ref (x0 + 35)] rfl (fun _ => rfl) rfl ?_
          refine dg_s (pc' := 54) [.int x1, .ref (x0 + 35)] rfl (fun _ => rfl) rfl ?_
          refine dg_s (pc' := 55) [.int (m.1 (x0 + 35) (Int32.toNatClampNeg x1))] rfl (fun _ => rfl) rfl ?_
          refine dg_s (pc' := 57) [.int (-4 : Int32), .int (m.1 (x0 + 35) (Int32.toNatClampNeg x1))] rfl (fun _ => rfl) rfl ?_
          refine dw_if (fun t => Φ t) (¬ (Int32.toInt (m.1 (x0 + 35) (Int32.toNatClampNeg x1))) = (-4)) [] 65 60 rfl (fun _ => rfl) (fun c4 => ?_) (fun c4 => ?_)
          · refine dw_g rfl ?_
            refine dg_s (pc' := 67) [.int (-13 : Int32)] rfl (fun _ => rfl) rfl ?_
            exact dw_r (some (.inl (some (.int (-13 : Int32)), m))) rfl (fun _ => rfl) (kR _)
          · refine dw_g rfl ?_
            refine dg_s (pc' := 62) [.int (-11 : Int32)] rfl (fun _ => rfl) rfl ?_
            refine dg_s (pc' := 67) [.int (-11 : Int32)] rfl (fun _ => rfl) rfl ?_
            exact dw_r (some (.inl (some (.int (-11 : Int32)), m))) rfl (fun _ => rfl) (kR _)
      · refine dw_g rfl ?_
        refine dg_s (pc' := 38) [.int (-1 : Int32)] rfl (fun _ => rfl) rfl ?_
        exact dw_r (some (.inl (some (.int (-1 : Int32)), m))) rfl (fun _ => rfl) (kR _)
noncomputable def H_X10_row : dc_H := fun As m k => match As with
  | [.ref x0, .int x1, .int x2, .int x3, .int x4] => (d_X10_row x0 x1 x2 x3 x4 m).bind (fun q => k (some (.int q)) m)
  | _ => dc_kz
theorem H_X10_row_ok {u : Nat} : dc_cok u 227 H_X10_row := fun M' hG N As m k P hz hP => by
  obtain rfl : ab_M_X10_row = M' := Option.some.inj hG
  unfold H_X10_row at hP
  split at hP
  · rename_i x0 x1 x2 x3 x4
    exact dc_pv.imp (k_X10_row (Φ := fun (t : Option Int32) r m' => P (t.bind (fun q => k (some (.int q)) m)) → P (k r m')) x0 x1 x2 x3 x4 m (fun _  h => h) rfl rfl rfl rfl rfl) (fun r m' h => h hP)
  · exact absurd hP hz
def C_X9_count : List (Nat × dc_H) := [(229, H_J6_bitCount_0f7a4), (76, H_X6_isNothing)]
theorem CO_X9_count {u : Nat} : dc_CO u C_X9_count := dc_CO_cons H_J6_bitCount_0f7a4_ok (dc_CO_cons H_X6_isNothing_ok (dc_CO_nil))
def S_X9_count : List (Nat × List Nat) := []
def d_X9_count (x0 : Nat) (x1 : Int32) (m : dc_M) : Int32 :=
  (if (Int32.toInt x1) = 0 then (m.1 (m.2.2.1 x0 7) 0) else (if (Int32.toInt x1) = 1 then (m.1 (m.2.2.1 x0 7) 1) else (if (Int32.toInt x1) = 2 then (m.1 (m.2.2.1 x0 7) 2) else (if (Int32.toInt x1) = 3 then (d_J6_bitCount_0f7a4 (m.1 (m.2.2.1 x0 7) 13) m) else (if (Int32.toInt x1) = 4 then (m.1 (x0 + 36) 0) else (if (Int32.toInt x1) = 5 then (m.1 (x0 + 1) 1) else (if (Int32.toInt x1) = 6 then (if (Int32.toInt (d_X6_isNothing (m.2.2.1 (x0 + 39) (Int32.toNatClampNeg (0 : Int32))) m)) = 0 then (m.1 (m.2.2.1 (x0 + 39) (Int32.toNatClampNeg (0 : Int32))) 0) else (-4 : Int32)) else (-1 : Int32))))))))
set_option maxHeartbeats 8000000 in
theorem k_X9_count {u : Nat} {N : Nat} {Φ : Int32 → Option Value → dc_M → Prop} (x0 : Nat) (x1 : Int32) (m : dc_M) (kR : ∀ (v : Int32), Φ (v) (some (.int v)) m)  {lv : ab_L} (f0 : ab_lk lv 0 = some (.ref x0)) (f1 : ab_lk lv 1 = some (.int x1)) : dc_pv u N ab_M_X9_count 0 lv [] m (Φ (d_X9_count x0 x1 m)) := by
  refine dc_pv.mono (dc_ok (C := C_X9_count) (S := S_X9_count) CO_X9_count 400 0 [(0, .ref x0), (1, .int x1)] lv [] m (dc_sub_cons f0 (dc_sub_cons f1 (dc_sub_nil))) ?_) (Nat.le_succ N)
  unfold d_X9_count
  refine dg_s (pc' := 1) [.int x1] rfl (fun _ => rfl) rfl ?_
  refine dw_sw (fun t => Φ t) ((Int32.toInt x1)) 122 [(0, 44), (1, 52), (2, 60), (3, 68), (4, 79), (5, 87), (6, 95)] [] rfl (fun _ => rfl) ?_
  refine dw_ts (fun t => Φ t) (fun c0 => ?_) (fun c0 => ?_)
  · refine dw_g rfl ?_
    refine dg_s (pc' := 45) [.ref x0] rfl (fun _ => rfl) rfl ?_
    refine dg_s (pc' := 48) [.ref (m.2.2.1 x0 7)] rfl (fun _ => rfl) rfl ?_
    refine dg_s (pc' := 51) [.int (m.1 (m.2.2.1 x0 7) 0)] rfl (fun _ => rfl) rfl ?_
    exact dw_r (some (.inl (some (.int (m.1 (m.2.2.1 x0 7) 0)), m))) rfl (fun _ => rfl) (kR _)
  refine dw_ts (fun t => Φ t) (fun c1 => ?_) (fun c1 => ?_)
  · refine dw_g rfl ?_
    refine dg_s (pc' := 53) [.ref x0] rfl (fun _ => rfl) rfl ?_
    refine dg_s (pc' := 56) [.ref (m.2.2.1 x0 7)] rfl (fun _ => rfl) rfl ?_
    refine dg_s (pc' := 59) [.int (m.1 (m.2.2.1 x0 7) 1)] rfl (fun _ => rfl) rfl ?_
    exact dw_r (some (.inl (some (.int (m.1 (m.2.2.1 x0 7) 1)), m))) rfl (fun _ => rfl) (kR _)
  refine dw_ts (fun t => Φ t) (fun c2 => ?_) (fun c2 => ?_)
  · refine dw_g rfl ?_
    refine dg_s (pc' := 61) [.ref x0] rfl (fun _ => rfl) rfl ?_
    refine dg_s (pc' := 64) [.ref (m.2.2.1 x0 7)] rfl (fun _ => rfl) rfl ?_
    refine dg_s (pc' := 67) [.int (m.1 (m.2.2.1 x0 7) 2)] rfl (fun _ => rfl) rfl ?_
    exact dw_r (some (.inl (some (.int (m.1 (m.2.2.1 x0 7) 2)), m))) rfl (fun _ => rfl) (kR _)
  refine dw_ts (fun t => Φ t) (fun c3 => ?_) (fun c3 => ?_)
  · refine dw_g rfl ?_
    refine dg_s (pc' := 69) [.ref x0] rfl (fun _ => rfl) rfl ?_
    refine dg_s (pc' := 72) [.ref (m.2.2.1 x0 7)] rfl (fun _ => rfl) rfl ?_
    refine dg_s (pc' := 75) [.int (m.1 (m.2.2.1 x0 7) 13)] rfl (fun _ => rfl) rfl ?_
    refine dg_s (pc' := 78) [.int (d_J6_bitCount_0f7a4 (m.1 (m.2.2.1 x0 7) 13) m)] rfl (fun _ => rfl) rfl ?_
    exact dw_r (some (.inl (some (.int (d_J6_bitCount_0f7a4 (m.1 (m.2.2.1 x0 7) 13) m)), m))) rfl (fun _ => rfl) (kR _)
  refine dw_ts (fun t => Φ t) (fun c4 => ?_) (fun c4 => ?_)
  · refine dw_g rfl ?_
    refine dg_s (pc' := 80) [.ref x0] rfl (fun _ => rfl) rfl ?_
    refine dg_s (pc' := 83) [.ref (x0 + 36)] rfl (fun _ => rfl) rfl ?_
    refine dg_s (pc' := 86) [.int (m.1 (x0 + 36) 0)] rfl (fun _ => rfl) rfl ?_
    exact dw_r (some (.inl (some (.int (m.1 (x0 + 36) 0)), m))) rfl (fun _ => rfl) (kR _)
  refine dw_ts (fun t => Φ t) (fun c5 => ?_) (fun c5 => ?_)
  · refine dw_g rfl ?_
    refine dg_s (pc' := 88) [.ref x0] rfl (fun _ => rfl) rfl ?_
    refine dg_s (pc' := 91) [.ref (x0 + 1)] rfl (fun _ => rfl) rfl ?_
    refine dg_s (pc' := 94) [.int (m.1 (x0 + 1) 1)] rfl (fun _ => rfl) rfl ?_
    exact dw_r (some (.inl (some (.int (m.1 (x0 + 1) 1)), m))) rfl (fun _ => rfl) (kR _)
  refine dw_ts (fun t => Φ t) (fun c6 => ?_) (fun c6 => ?_)
  · refine dw_g rfl ?_
    refine dg_s (pc' := 96) [.ref x0] rfl (fun _ => rfl) rfl ?_
    refine dg_s (pc' := 99) [.ref (x0 + 39)] rfl (fun _ => rfl) rfl ?_
    refine dg_s (pc' := 100) [.int (0 : Int32), .ref (x0 + 39)] rfl (fun _ => rfl) rfl ?_
    refine dg_s (pc' := 101) [.ref (m.2.2.1 (x0 + 39) (Int32.toNatClampNeg (0 : Int32)))] rfl (fun _ => rfl) rfl ?_
    refine dg_s (pc' := 104) [.int (d_X6_isNothing (m.2.2.1 (x0 + 39) (Int32.toNatClampNeg (0 : Int32))) m)] rfl (fun _ => rfl) rfl ?_
    refine dw_if (fun t => Φ t) ((Int32.toInt (d_X6_isNothing (m.2.2.1 (x0 + 39) (Int32.toNatClampNeg (0 : Int32))) m)) = 0) [] 112 107 rfl (fun _ => rfl) (fun c7 => ?_) (fun c7 => ?_)
    · refine dw_g rfl ?_
      refine dg_s (pc' := 113) [.ref x0] rfl (fun _ => rfl) rfl ?_
      refine dg_s (pc' := 116) [.ref (x0 + 39)] rfl (fun _ => rfl) rfl ?_
      refine dg_s (pc' := 117) [.int (0 : Int32), .ref (x0 + 39)] rfl (fun _ => rfl) rfl ?_
      refine dg_s (pc' := 118) [.ref (m.2.2.1 (x0 + 39) (Int32.toNatClampNeg (0 : Int32)))] rfl (fun _ => rfl) rfl ?_
      refine dg_s (pc' := 121) [.int (m.1 (m.2.2.1 (x0 + 39) (Int32.toNatClampNeg (0 : Int32))) 0)] rfl (fun _ => rfl) rfl ?_
      exact dw_r (some (.inl (some (.int (m.1 (m.2.2.1 (x0 + 39) (Int32.toNatClampNeg (0 : Int32))) 0)), m))) rfl (fun _ => rfl) (kR _)
    · refine dw_g rfl ?_
      refine dg_s (pc' := 109) [.int (-4 : Int32)] rfl (fun _ => rfl) rfl ?_
      refine dg_s (pc' := 121) [.int (-4 : Int32)] rfl (fun _ => rfl) rfl ?_
      exact dw_r (some (.inl (some (.int (-4 : Int32)), m))) rfl (fun _ => rfl) (kR _)
  refine dw_t0 ?_
  refine dw_g rfl ?_
  refine dg_s (pc' := 123) [.int (-1 : Int32)] rfl (fun _ => rfl) rfl ?_
  exact dw_r (some (.inl (some (.int (-1 : Int32)), m))) rfl (fun _ => rfl) (kR _)
def H_X9_count : dc_H := fun As m k => match As with
  | [.ref x0, .int x1] => k (some (.int (d_X9_count x0 x1 m))) m
  | _ => dc_kz
theorem H_X9_count_ok {u : Nat} : dc_cok u 130 H_X9_count := fun M' hG N As m k P hz hP => by
  obtain rfl : ab_M_X9_count = M' := Option.some.inj hG
  unfold H_X9_count at hP
  split at hP
  · rename_i x0 x1
    exact dc_pv.imp (k_X9_count (Φ := fun (t : Int32) r m' => P (k (some (.int t)) m) → P (k r m')) x0 x1 m (fun _  h => h) rfl rfl) (fun r m' h => h hP)
  · exact absurd hP hz
def C_X10_sizeOf : List (Nat × dc_H) := []
theorem CO_X10_sizeOf {u : Nat} : dc_CO u C_X10_sizeOf := dc_CO_nil
def S_X10_sizeOf : List (Nat × List Nat) := [(4, [0, 1, 2])]
noncomputable def d_X10_sizeOf_l4b (x0 : Int32) (x1 : Int32) (x2 : Int32) (m : dc_M) : Option ((Int32 × Int32) ⊕ Int32) :=
  (if 20 ≤ (Int32.toInt x2) then some (Sum.inr (x1)) else some (Sum.inl ((x1 + ((x0 >>> (x2 &&& 31)) &&& (1 : Int32))), (x2 + (1 : Int32)))))
noncomputable def d_X10_sizeOf_l4s (x0 : Int32) (m : dc_M) : (Int32 × Int32) → Option ((Int32 × Int32) ⊕ Int32) := fun s => d_X10_sizeOf_l4b x0 s.1 s.2 m
noncomputable def d_X10_sizeOf_l4 (x0 : Int32) (x1 : Int32) (x2 : Int32) (m : dc_M) : Option Int32 := dc_lp (d_X10_sizeOf_l4s x0 m) (x1, x2)
set_option maxHeartbeats 8000000 in
theorem k_X10_sizeOf_l4 {u : Nat} {Φ : (Option Int32) → Option Value → dc_M → Prop} (x0 : Int32) (m : dc_M) (kR : ∀ (v : Int32), Φ (some (v)) (some (.int v)) m) : ∀ (N : Nat), ∀ (x1 : Int32) (x2 : Int32) (lv : ab_L), ab_lk lv 0 = some (.int x0) → ab_lk lv 1 = some (.int x1) → ab_lk lv 2 = some (.int x2) → dc_pv u N ab_M_X10_sizeOf 4 lv [] m (Φ (d_X10_sizeOf_l4 x0 x1 x2 m)) := by
  intro N
  induction N with
  | zero => intros; exact dc_pv_zero
  | succ N ih =>
    intro x1 x2 lv f0 f1 f2
    refine dc_ok (C := C_X10_sizeOf) (S := S_X10_sizeOf) CO_X10_sizeOf 400 4 [(0, .int x0), (1, .int x1), (2, .int x2)] lv [] m (dc_sub_cons f0 (dc_sub_cons f1 (dc_sub_cons f2 (dc_sub_nil)))) ?_
    unfold d_X10_sizeOf_l4
    rw [dc_lp_eq]
    show (fun t x => dc_lf u N ab_M_X10_sizeOf (Φ (Option.bind t (dc_bk (d_X10_sizeOf_l4s x0 m)))) x) (d_X10_sizeOf_l4b x0 x1 x2 m) _
    dsimp only
    unfold d_X10_sizeOf_l4b
    refine dg_s (pc' := 5) [.int x2] rfl (fun _ => rfl) rfl ?_
    refine dg_s (pc' := 7) [.int (20 : Int32), .int x2] rfl (fun _ => rfl) rfl ?_
    refine dw_if (fun t => Φ (Option.bind t (dc_bk (d_X10_sizeOf_l4s x0 m)))) (20 ≤ (Int32.toInt x2)) [] 24 10 rfl (fun _ => rfl) (fun c0 => ?_) (fun c0 => ?_)
    · refine dw_g rfl ?_
      refine dg_s (pc' := 25) [.int x1] rfl (fun _ => rfl) rfl ?_
      exact dw_r (some (.inl (some (.int x1), m))) rfl (fun _ => rfl) (kR _)
    · refine dw_g rfl ?_
      refine dg_s (pc' := 11) [.int x1] rfl (fun _ => rfl) rfl ?_
      refine dg_s (pc' := 12) [.int x0, .int x1] rfl (fun _ => rfl) rfl ?_
      refine dg_s (pc' := 13) [.int x2, .int x0, .int x1] rfl (fun _ => rfl) rfl ?_
      refine dg_s (pc' := 14) [.int (x0 >>> (x2 &&& 31)), .int x1] rfl (fun _ => rfl) rfl ?_
      refine dg_s (pc' := 15) [.int (1 : Int32), .int (x0 >>> (x2 &&& 31)), .int x1] rfl (fun _ => rfl) rfl ?_
      refine dg_s (pc' := 16) [.int ((x0 >>> (x2 &&& 31)) &&& (1 : Int32)), .int x1] rfl (fun _ => rfl) rfl ?_
      refine dg_s (pc' := 17) [.int (x1 + ((x0 >>> (x2 &&& 31)) &&& (1 : Int32)))] rfl (fun _ => rfl) rfl ?_
      refine dg_L (pc' := 18) [(1, .int (x1 + ((x0 >>> (x2 &&& 31)) &&& (1 : Int32)))), (0, .int x0), (2, .int x2)] [] rfl (fun _ => rfl) rfl ?_
      refine dg_L (pc' := 21) [(2, .int (x2 + (1 : Int32))), (1, .int (x1 + ((x0 >>> (x2 &&& 31)) &&& (1 : Int32)))), (0, .int x0)] [] rfl (fun _ => rfl) rfl ?_
      refine dw_s (pc' := 4) [] rfl (fun _ => rfl) ?_
      exact dw_j rfl (fun lv1 hv => ih (x1 + ((x0 >>> (x2 &&& 31)) &&& (1 : Int32))) (x2 + (1 : Int32)) lv1 (hv.1 _ rfl) (hv.2.1 _ rfl) (hv.2.2.1 _ rfl))
noncomputable def d_X10_sizeOf (x0 : Int32) (m : dc_M) : Option Int32 :=
  (d_X10_sizeOf_l4 x0 (0 : Int32) (0 : Int32) m)
set_option maxHeartbeats 8000000 in
theorem k_X10_sizeOf {u : Nat} {N : Nat} {Φ : (Option Int32) → Option Value → dc_M → Prop} (x0 : Int32) (m : dc_M) (kR : ∀ (v : Int32), Φ (some (v)) (some (.int v)) m)  {lv : ab_L} (f0 : ab_lk lv 0 = some (.int x0)) : dc_pv u N ab_M_X10_sizeOf 0 lv [] m (Φ (d_X10_sizeOf x0 m)) := by
  refine dc_pv.mono (dc_ok (C := C_X10_sizeOf) (S := S_X10_sizeOf) CO_X10_sizeOf 400 0 [(0, .int x0)] lv [] m (dc_sub_cons f0 (dc_sub_nil)) ?_) (Nat.le_succ N)
  unfold d_X10_sizeOf
  refine dg_s (pc' := 1) [.int (0 : Int32)] rfl (fun _ => rfl) rfl ?_
  refine dg_L (pc' := 2) [(1, .int (0 : Int32)), (0, .int x0)] [] rfl (fun _ => rfl) rfl ?_
  refine dg_s (pc' := 3) [.int (0 : Int32)] rfl (fun _ => rfl) rfl ?_
  refine dw_L (pc' := 4) [(2, .int (0 : Int32)), (1, .int (0 : Int32)), (0, .int x0)] [] rfl (fun _ => rfl) ?_
  exact dw_j rfl (fun lv1 hv => k_X10_sizeOf_l4 (Φ := (fun t => Φ t)) x0 m (fun _a  => kR _a) N  (0 : Int32) (0 : Int32) lv1 (hv.1 _ rfl) (hv.2.1 _ rfl) (hv.2.2.1 _ rfl))
noncomputable def H_X10_sizeOf : dc_H := fun As m k => match As with
  | [.int x0] => (d_X10_sizeOf x0 m).bind (fun q => k (some (.int q)) m)
  | _ => dc_kz
theorem H_X10_sizeOf_ok {u : Nat} : dc_cok u 212 H_X10_sizeOf := fun M' hG N As m k P hz hP => by
  obtain rfl : ab_M_X10_sizeOf = M' := Option.some.inj hG
  unfold H_X10_sizeOf at hP
  split at hP
  · rename_i x0
    exact dc_pv.imp (k_X10_sizeOf (Φ := fun (t : Option Int32) r m' => P (t.bind (fun q => k (some (.int q)) m)) → P (k r m')) x0 m (fun _  h => h) rfl) (fun r m' h => h hP)
  · exact absurd hP hz
noncomputable def C_X10_count : List (Nat × dc_H) := [(212, H_X10_sizeOf)]
theorem CO_X10_count {u : Nat} : dc_CO u C_X10_count := dc_CO_cons H_X10_sizeOf_ok (dc_CO_nil)
def S_X10_count : List (Nat × List Nat) := []
noncomputable def d_X10_count (x0 : Nat) (x1 : Int32) (m : dc_M) : Option Int32 :=
  (if (Int32.toInt x1) = 0 then some ((m.1 x0 0)) else (if (Int32.toInt x1) = 1 then some ((m.1 x0 3)) else (if (Int32.toInt x1) = 2 then some ((m.1 x0 10)) else (if (Int32.toInt x1) = 3 then ((d_X10_sizeOf (m.1 x0 11) m).bind (fun q1 => some (q1))) else (if (Int32.toInt x1) = 4 then some ((m.1 x0 64)) else (if (Int32.toInt x1) = 5 then some ((m.1 x0 13)) else (if (Int32.toInt x1) = 6 then (if ¬ (Int32.toInt (m.1 (x0 + 35) (Int32.toNatClampNeg (0 : Int32)))) = (-4) then some ((m.1 (x0 + 36) (Int32.toNatClampNeg (0 : Int32)))) else some ((-4 : Int32))) else some ((-1 : Int32)))))))))
set_option maxHeartbeats 8000000 in
theorem k_X10_count {u : Nat} {N : Nat} {Φ : (Option Int32) → Option Value → dc_M → Prop} (x0 : Nat) (x1 : Int32) (m : dc_M) (kR : ∀ (v : Int32), Φ (some (v)) (some (.int v)) m)  {lv : ab_L} (f0 : ab_lk lv 0 = some (.ref x0)) (f1 : ab_lk lv 1 = some (.int x1)) : dc_pv u N ab_M_X10_count 0 lv [] m (Φ (d_X10_count x0 x1 m)) := by
  refine dc_pv.mono (dc_ok (C := C_X10_count) (S := S_X10_count) CO_X10_count 400 0 [(0, .ref x0), (1, .int x1)] lv [] m (dc_sub_cons f0 (dc_sub_cons f1 (dc_sub_nil))) ?_) (Nat.le_succ N)
  unfold d_X10_count
  refine dg_s (pc' := 1) [.int x1] rfl (fun _ => rfl) rfl ?_
  refine dw_sw (fun t => Φ t) ((Int32.toInt x1)) 100 [(0, 44), (1, 49), (2, 54), (3, 59), (4, 67), (5, 72), (6, 77)] [] rfl (fun _ => rfl) ?_
  refine dw_ts (fun t => Φ t) (fun c0 => ?_) (fun c0 => ?_)
  · refine dw_g rfl ?_
    refine dg_s (pc' := 45) [.ref x0] rfl (fun _ => rfl) rfl ?_
    refine dg_s (pc' := 48) [.int (m.1 x0 0)] rfl (fun _ => rfl) rfl ?_
    exact dw_r (some (.inl (some (.int (m.1 x0 0)), m))) rfl (fun _ => rfl) (kR _)
  refine dw_ts (fun t => Φ t) (fun c1 => ?_) (fun c1 => ?_)
  · refine dw_g rfl ?_
    refine dg_s (pc' := 50) [.ref x0] rfl (fun _ => rfl) rfl ?_
    refine dg_s (pc' := 53) [.int (m.1 x0 3)] rfl (fun _ => rfl) rfl ?_
    exact dw_r (some (.inl (some (.int (m.1 x0 3)), m))) rfl (fun _ => rfl) (kR _)
  refine dw_ts (fun t => Φ t) (fun c2 => ?_) (fun c2 => ?_)
  · refine dw_g rfl ?_
    refine dg_s (pc' := 55) [.ref x0] rfl (fun _ => rfl) rfl ?_
    refine dg_s (pc' := 58) [.int (m.1 x0 10)] rfl (fun _ => rfl) rfl ?_
    exact dw_r (some (.inl (some (.int (m.1 x0 10)), m))) rfl (fun _ => rfl) (kR _)
  refine dw_ts (fun t => Φ t) (fun c3 => ?_) (fun c3 => ?_)
  · refine dw_g rfl ?_
    refine dg_s (pc' := 60) [.ref x0] rfl (fun _ => rfl) rfl ?_
    refine dg_s (pc' := 63) [.int (m.1 x0 11)] rfl (fun _ => rfl) rfl ?_
    refine dw_b (fun t => Φ t) (pc' := 66) (fun q1 => [.int q1]) (fun q1 => m) rfl (fun _ => rfl) (fun q1 => ?_)
    refine dw_g rfl ?_
    exact dw_r (some (.inl (some (.int q1), m))) rfl (fun _ => rfl) (kR _)
  refine dw_ts (fun t => Φ t) (fun c4 => ?_) (fun c4 => ?_)
  · refine dw_g rfl ?_
    refine dg_s (pc' := 68) [.ref x0] rfl (fun _ => rfl) rfl ?_
    refine dg_s (pc' := 71) [.int (m.1 x0 64)] rfl (fun _ => rfl) rfl ?_
    exact dw_r (some (.inl (some (.int (m.1 x0 64)), m))) rfl (fun _ => rfl) (kR _)
  refine dw_ts (fun t => Φ t) (fun c5 => ?_) (fun c5 => ?_)
  · refine dw_g rfl ?_
    refine dg_s (pc' := 73) [.ref x0] rfl (fun _ => rfl) rfl ?_
    refine dg_s (pc' := 76) [.int (m.1 x0 13)] rfl (fun _ => rfl) rfl ?_
    exact dw_r (some (.inl (some (.int (m.1 x0 13)), m))) rfl (fun _ => rfl) (kR _)
  refine dw_ts (fun t => Φ t) (fun c6 => ?_) (fun c6 => ?_)
  · refine dw_g rfl ?_
    refine dg_s (pc' := 78) [.ref x0] rfl (fun _ => rfl) rfl ?_
    refine dg_s (pc' := 81) [.ref (x0 + 35)] rfl (fun _ => rfl) rfl ?_
    refine dg_s (pc' := 82) [.int (0 : Int32), .ref (x0 + 35)] rfl (fun _ => rfl) rfl ?_
    refine dg_s (pc' := 83) [.int (m.1 (x0 + 35) (Int32.toNatClampNeg (0 : Int32)))] rfl (fun _ => rfl) rfl ?_
    refine dg_s (pc' := 85) [.int (-4 : Int32), .int (m.1 (x0 + 35) (Int32.toNatClampNeg (0 : Int32)))] rfl (fun _ => rfl) rfl ?_
    refine dw_if (fun t => Φ t) (¬ (Int32.toInt (m.1 (x0 + 35) (Int32.toNatClampNeg (0 : Int32)))) = (-4)) [] 93 88 rfl (fun _ => rfl) (fun c7 => ?_) (fun c7 => ?_)
    · refine dw_g rfl ?_
      refine dg_s (pc' := 94) [.ref x0] rfl (fun _ => rfl) rfl ?_
      refine dg_s (pc' := 97) [.ref (x0 + 36)] rfl (fun _ => rfl) rfl ?_
      refine dg_s (pc' := 98) [.int (0 : Int32), .ref (x0 + 36)] rfl (fun _ => rfl) rfl ?_
      refine dg_s (pc' := 99) [.int (m.1 (x0 + 36) (Int32.toNatClampNeg (0 : Int32)))] rfl (fun _ => rfl) rfl ?_
      exact dw_r (some (.inl (some (.int (m.1 (x0 + 36) (Int32.toNatClampNeg (0 : Int32)))), m))) rfl (fun _ => rfl) (kR _)
    · refine dw_g rfl ?_
      refine dg_s (pc' := 90) [.int (-4 : Int32)] rfl (fun _ => rfl) rfl ?_
      refine dg_s (pc' := 99) [.int (-4 : Int32)] rfl (fun _ => rfl) rfl ?_
      exact dw_r (some (.inl (some (.int (-4 : Int32)), m))) rfl (fun _ => rfl) (kR _)
  refine dw_t0 ?_
  refine dw_g rfl ?_
  refine dg_s (pc' := 101) [.int (-1 : Int32)] rfl (fun _ => rfl) rfl ?_
  exact dw_r (some (.inl (some (.int (-1 : Int32)), m))) rfl (fun _ => rfl) (kR _)
noncomputable def H_X10_count : dc_H := fun As m k => match As with
  | [.ref x0, .int x1] => (d_X10_count x0 x1 m).bind (fun q => k (some (.int q)) m)
  | _ => dc_kz
theorem H_X10_count_ok {u : Nat} : dc_cok u 228 H_X10_count := fun M' hG N As m k P hz hP => by
  obtain rfl : ab_M_X10_count = M' := Option.some.inj hG
  unfold H_X10_count at hP
  split at hP
  · rename_i x0 x1
    exact dc_pv.imp (k_X10_count (Φ := fun (t : Option Int32) r m' => P (t.bind (fun q => k (some (.int q)) m)) → P (k r m')) x0 x1 m (fun _  h => h) rfl rfl) (fun r m' h => h hP)
  · exact absurd hP hz
def C_X2_add : List (Nat × dc_H) := []
theorem CO_X2_add {u : Nat} : dc_CO u C_X2_add := dc_CO_nil
def S_X2_add : List (Nat × List Nat) := []
def d_X2_add (x0 : Nat) (x1 : Int32) (x2 : Int32) (m : dc_M) : (Int32 × dc_M) :=
  (if (Int32.toInt (m.1 x0 0)) < 100 then ((1 : Int32), (dc_wi (dc_wi (dc_wi m (x0 + 1) (Int32.toNatClampNeg (m.1 x0 0)) x1) (x0 + 2) (Int32.toNatClampNeg ((dc_wi m (x0 + 1) (Int32.toNatClampNeg (m.1 x0 0)) x1).1 x0 0)) x2) x0 0 (((dc_wi (dc_wi m (x0 + 1) (Int32.toNatClampNeg (m.1 x0 0)) x1) (x0 + 2) (Int32.toNatClampNeg ((dc_wi m (x0 + 1) (Int32.toNatClampNeg (m.1 x0 0)) x1).1 x0 0)) x2).1 x0 0) + (1 : Int32)))) else ((0 : Int32), m))
set_option maxHeartbeats 8000000 in
theorem k_X2_add {u : Nat} {N : Nat} {Φ : (Int32 × dc_M) → Option Value → dc_M → Prop} (x0 : Nat) (x1 : Int32) (x2 : Int32) (m : dc_M) (kR : ∀ (v : Int32) (m : dc_M), Φ ((v, m)) (some (.int v)) m)  {lv : ab_L} (f0 : ab_lk lv 0 = some (.ref x0)) (f1 : ab_lk lv 1 = some (.int x1)) (f2 : ab_lk lv 2 = some (.int x2)) : dc_pv u N ab_M_X2_add 0 lv [] m (Φ (d_X2_add x0 x1 x2 m)) := by
  refine dc_pv.mono (dc_ok (C := C_X2_add) (S := S_X2_add) CO_X2_add 400 0 [(0, .ref x0), (1, .int x1), (2, .int x2)] lv [] m (dc_sub_cons f0 (dc_sub_cons f1 (dc_sub_cons f2 (dc_sub_nil)))) ?_) (Nat.le_succ N)
  unfold d_X2_add
  refine dg_s (pc' := 1) [.ref x0] rfl (fun _ => rfl) rfl ?_
  refine dg_s (pc' := 4) [.int (m.1 x0 0)] rfl (fun _ => rfl) rfl ?_
  refine dg_s (pc' := 6) [.int (100 : Int32), .int (m.1 x0 0)] rfl (fun _ => rfl) rfl ?_
  refine dw_if (fun t => Φ t) ((Int32.toInt (m.1 x0 0)) < 100) [] 11 9 rfl (fun _ => rfl) (fun c0 => ?_) (fun c0 => ?_)
  · refine dw_g rfl ?_
    refine dg_s (pc' := 12) [.ref x0] rfl (fun _ => rfl) rfl ?_
    refine dg_s (pc' := 15) [.ref (x0 + 1)] rfl (fun _ => rfl) rfl ?_
    refine dg_s (pc' := 16) [.ref x0, .ref (x0 + 1)] rfl (fun _ => rfl) rfl ?_
    refine dg_s (pc' := 19) [.int (m.1 x0 0), .ref (x0 + 1)] rfl (fun _ => rfl) rfl ?_
    refine dg_s (pc' := 20) [.int x1, .int (m.1 x0 0), .ref (x0 + 1)] rfl (fun _ => rfl) rfl ?_
    refine dg_m (pc' := 21) (dc_wi m (x0 + 1) (Int32.toNatClampNeg (m.1 x0 0)) x1) [] rfl (fun _ => rfl) rfl ?_
    refine dg_s (pc' := 22) [.ref x0] rfl (fun _ => rfl) rfl ?_
    refine dg_s (pc' := 25) [.ref (x0 + 2)] rfl (fun _ => rfl) rfl ?_
    refine dg_s (pc' := 26) [.ref x0, .ref (x0 + 2)] rfl (fun _ => rfl) rfl ?_
    refine dg_s (pc' := 29) [.int ((dc_wi m (x0 + 1) (Int32.toNatClampNeg (m.1 x0 0)) x1).1 x0 0), .ref (x0 + 2)] rfl (fun _ => rfl) rfl ?_
    refine dg_s (pc' := 30) [.int x2, .int ((dc_wi m (x0 + 1) (Int32.toNatClampNeg (m.1 x0 0)) x1).1 x0 0), .ref (x0 + 2)] rfl (fun _ => rfl) rfl ?_
    refine dg_m (pc' := 31) (dc_wi (dc_wi m (x0 + 1) (Int32.toNatClampNeg (m.1 x0 0)) x1) (x0 + 2) (Int32.toNatClampNeg ((dc_wi m (x0 + 1) (Int32.toNatClampNeg (m.1 x0 0)) x1).1 x0 0)) x2) [] rfl (fun _ => rfl) rfl ?_
    refine dg_s (pc' := 32) [.ref x0] rfl (fun _ => rfl) rfl ?_
    refine dg_s (pc' := 33) [.ref x0, .ref x0] rfl (fun _ => rfl) rfl ?_
    refine dg_s (pc' := 36) [.int ((dc_wi (dc_wi m (x0 + 1) (Int32.toNatClampNeg (m.1 x0 0)) x1) (x0 + 2) (Int32.toNatClampNeg ((dc_wi m (x0 + 1) (Int32.toNatClampNeg (m.1 x0 0)) x1).1 x0 0)) x2).1 x0 0), .ref x0] rfl (fun _ => rfl) rfl ?_
    refine dg_s (pc' := 37) [.int (1 : Int32), .int ((dc_wi (dc_wi m (x0 + 1) (Int32.toNatClampNeg (m.1 x0 0)) x1) (x0 + 2) (Int32.toNatClampNeg ((dc_wi m (x0 + 1) (Int32.toNatClampNeg (m.1 x0 0)) x1).1 x0 0)) x2).1 x0 0), .ref x0] rfl (fun _ => rfl) rfl ?_
    refine dg_s (pc' := 38) [.int (((dc_wi (dc_wi m (x0 + 1) (Int32.toNatClampNeg (m.1 x0 0)) x1) (x0 + 2) (Int32.toNatClampNeg ((dc_wi m (x0 + 1) (Int32.toNatClampNeg (m.1 x0 0)) x1).1 x0 0)) x2).1 x0 0) + (1 : Int32)), .ref x0] rfl (fun _ => rfl) rfl ?_
    refine dg_m (pc' := 41) (dc_wi (dc_wi (dc_wi m (x0 + 1) (Int32.toNatClampNeg (m.1 x0 0)) x1) (x0 + 2) (Int32.toNatClampNeg ((dc_wi m (x0 + 1) (Int32.toNatClampNeg (m.1 x0 0)) x1).1 x0 0)) x2) x0 0 (((dc_wi (dc_wi m (x0 + 1) (Int32.toNatClampNeg (m.1 x0 0)) x1) (x0 + 2) (Int32.toNatClampNeg ((dc_wi m (x0 + 1) (Int32.toNatClampNeg (m.1 x0 0)) x1).1 x0 0)) x2).1 x0 0) + (1 : Int32))) [] rfl (fun _ => rfl) rfl ?_
    refine dg_s (pc' := 42) [.int (1 : Int32)] rfl (fun _ => rfl) rfl ?_
    exact dw_r (some (.inl (some (.int (1 : Int32)), (dc_wi (dc_wi (dc_wi m (x0 + 1) (Int32.toNatClampNeg (m.1 x0 0)) x1) (x0 + 2) (Int32.toNatClampNeg ((dc_wi m (x0 + 1) (Int32.toNatClampNeg (m.1 x0 0)) x1).1 x0 0)) x2) x0 0 (((dc_wi (dc_wi m (x0 + 1) (Int32.toNatClampNeg (m.1 x0 0)) x1) (x0 + 2) (Int32.toNatClampNeg ((dc_wi m (x0 + 1) (Int32.toNatClampNeg (m.1 x0 0)) x1).1 x0 0)) x2).1 x0 0) + (1 : Int32)))))) rfl (fun _ => rfl) (kR _ _)
  · refine dw_g rfl ?_
    refine dg_s (pc' := 10) [.int (0 : Int32)] rfl (fun _ => rfl) rfl ?_
    exact dw_r (some (.inl (some (.int (0 : Int32)), m))) rfl (fun _ => rfl) (kR _ _)
def H_X2_add : dc_H := fun As m k => match As with
  | [.ref x0, .int x1, .int x2] => dc_let (d_X2_add x0 x1 x2 m) (fun q => k (some (.int q.1)) q.2)
  | _ => dc_kz
theorem H_X2_add_ok {u : Nat} : dc_cok u 20 H_X2_add := fun M' hG N As m k P hz hP => by
  obtain rfl : ab_M_X2_add = M' := Option.some.inj hG
  unfold H_X2_add at hP
  split at hP
  · rename_i x0 x1 x2
    exact dc_pv.imp (k_X2_add (Φ := fun (t : (Int32 × dc_M)) r m' => P (dc_let t (fun q => k (some (.int q.1)) q.2)) → P (k r m')) x0 x1 x2 m (fun _ _ h => h) rfl rfl rfl) (fun r m' h => h hP)
  · exact absurd hP hz
def C_X2_markingOf : List (Nat × dc_H) := []
theorem CO_X2_markingOf {u : Nat} : dc_CO u C_X2_markingOf := dc_CO_nil
def S_X2_markingOf : List (Nat × List Nat) := []
def d_X2_markingOf (x0 : Nat) (x1 : Nat) (m : dc_M) : Int32 :=
  (if (Int32.toInt (m.1 x0 0)) ≤ 0 then (m.1 x1 13) else (if 100 < (Int32.toInt (m.1 x0 0)) then (m.1 x1 13) else (m.1 (x0 + 2) (Int32.toNatClampNeg ((m.1 x0 0) - (1 : Int32))))))
set_option maxHeartbeats 8000000 in
theorem k_X2_markingOf {u : Nat} {N : Nat} {Φ : Int32 → Option Value → dc_M → Prop} (x0 : Nat) (x1 : Nat) (m : dc_M) (kR : ∀ (v : Int32), Φ (v) (some (.int v)) m)  {lv : ab_L} (f0 : ab_lk lv 0 = some (.ref x0)) (f1 : ab_lk lv 1 = some (.ref x1)) : dc_pv u N ab_M_X2_markingOf 0 lv [] m (Φ (d_X2_markingOf x0 x1 m)) := by
  refine dc_pv.mono (dc_ok (C := C_X2_markingOf) (S := S_X2_markingOf) CO_X2_markingOf 400 0 [(0, .ref x0), (1, .ref x1)] lv [] m (dc_sub_cons f0 (dc_sub_cons f1 (dc_sub_nil))) ?_) (Nat.le_succ N)
  unfold d_X2_markingOf
  refine dg_s (pc' := 1) [.ref x0] rfl (fun _ => rfl) rfl ?_
  refine dg_s (pc' := 4) [.int (m.1 x0 0)] rfl (fun _ => rfl) rfl ?_
  refine dw_if (fun t => Φ t) ((Int32.toInt (m.1 x0 0)) ≤ 0) [] 30 7 rfl (fun _ => rfl) (fun c0 => ?_) (fun c0 => ?_)
  · refine dw_g rfl ?_
    refine dg_s (pc' := 31) [.ref x1] rfl (fun _ => rfl) rfl ?_
    refine dg_s (pc' := 34) [.int (m.1 x1 13)] rfl (fun _ => rfl) rfl ?_
    exact dw_r (some (.inl (some (.int (m.1 x1 13)), m))) rfl (fun _ => rfl) (kR _)
  · refine dw_g rfl ?_
    refine dg_s (pc' := 8) [.ref x0] rfl (fun _ => rfl) rfl ?_
    refine dg_s (pc' := 11) [.int (m.1 x0 0)] rfl (fun _ => rfl) rfl ?_
    refine dg_s (pc' := 13) [.int (100 : Int32), .int (m.1 x0 0)] rfl (fun _ => rfl) rfl ?_
    refine dw_if (fun t => Φ t) (100 < (Int32.toInt (m.1 x0 0))) [] 30 16 rfl (fun _ => rfl) (fun c1 => ?_) (fun c1 => ?_)
    · refine dw_g rfl ?_
      refine dg_s (pc' := 31) [.ref x1] rfl (fun _ => rfl) rfl ?_
      refine dg_s (pc' := 34) [.int (m.1 x1 13)] rfl (fun _ => rfl) rfl ?_
      exact dw_r (some (.inl (some (.int (m.1 x1 13)), m))) rfl (fun _ => rfl) (kR _)
    · refine dw_g rfl ?_
      refine dg_s (pc' := 17) [.ref x0] rfl (fun _ => rfl) rfl ?_
      refine dg_s (pc' := 20) [.ref (x0 + 2)] rfl (fun _ => rfl) rfl ?_
      refine dg_s (pc' := 21) [.ref x0, .ref (x0 + 2)] rfl (fun _ => rfl) rfl ?_
      refine dg_s (pc' := 24) [.int (m.1 x0 0), .ref (x0 + 2)] rfl (fun _ => rfl) rfl ?_
      refine dg_s (pc' := 25) [.int (1 : Int32), .int (m.1 x0 0), .ref (x0 + 2)] rfl (fun _ => rfl) rfl ?_
      refine dg_s (pc' := 26) [.int ((m.1 x0 0) - (1 : Int32)), .ref (x0 + 2)] rfl (fun _ => rfl) rfl ?_
      refine dg_s (pc' := 27) [.int (m.1 (x0 + 2) (Int32.toNatClampNeg ((m.1 x0 0) - (1 : Int32))))] rfl (fun _ => rfl) rfl ?_
      refine dg_s (pc' := 34) [.int (m.1 (x0 + 2) (Int32.toNatClampNeg ((m.1 x0 0) - (1 : Int32))))] rfl (fun _ => rfl) rfl ?_
      exact dw_r (some (.inl (some (.int (m.1 (x0 + 2) (Int32.toNatClampNeg ((m.1 x0 0) - (1 : Int32))))), m))) rfl (fun _ => rfl) (kR _)
def H_X2_markingOf : dc_H := fun As m k => match As with
  | [.ref x0, .ref x1] => k (some (.int (d_X2_markingOf x0 x1 m))) m
  | _ => dc_kz
theorem H_X2_markingOf_ok {u : Nat} : dc_cok u 18 H_X2_markingOf := fun M' hG N As m k P hz hP => by
  obtain rfl : ab_M_X2_markingOf = M' := Option.some.inj hG
  unfold H_X2_markingOf at hP
  split at hP
  · rename_i x0 x1
    exact dc_pv.imp (k_X2_markingOf (Φ := fun (t : Int32) r m' => P (k (some (.int t)) m) → P (k r m')) x0 x1 m (fun _  h => h) rfl rfl) (fun r m' h => h hP)
  · exact absurd hP hz
def C_X9_come : List (Nat × dc_H) := [(20, H_X2_add), (18, H_X2_markingOf), (39, H_X3_after), (38, H_X3_canCome), (26, H_X3_hasEvent)]
theorem CO_X9_come {u : Nat} : dc_CO u C_X9_come := dc_CO_cons H_X2_add_ok (dc_CO_cons H_X2_markingOf_ok (dc_CO_cons H_X3_after_ok (dc_CO_cons H_X3_canCome_ok (dc_CO_cons H_X3_hasEvent_ok (dc_CO_nil)))))
def S_X9_come : List (Nat × List Nat) := []
def d_X9_come (x0 : Nat) (x1 : Int32) (m : dc_M) : (Int32 × dc_M) :=
  (if ¬ (Int32.toInt (d_X3_hasEvent (m.2.2.1 x0 7) x1 m)) = 0 then (if ¬ (Int32.toInt (d_X3_canCome (m.2.2.1 x0 7) (d_X2_markingOf (x0 + 36) (m.2.2.1 x0 7) m) x1 m)) = 0 then (dc_let (d_X2_add (x0 + 36) x1 (d_X3_after (m.2.2.1 x0 7) (d_X2_markingOf (x0 + 36) (m.2.2.1 x0 7) m) x1 m) m) (fun q1 => (if (Int32.toInt q1.1) = 0 then ((-3 : Int32), q1.2) else ((q1.2.1 (x0 + 36) 0), q1.2)))) else ((-2 : Int32), m)) else ((-1 : Int32), m))
set_option maxHeartbeats 8000000 in
theorem k_X9_come {u : Nat} {N : Nat} {Φ : (Int32 × dc_M) → Option Value → dc_M → Prop} (x0 : Nat) (x1 : Int32) (m : dc_M) (kR : ∀ (v : Int32) (m : dc_M), Φ ((v, m)) (some (.int v)) m)  {lv : ab_L} (f0 : ab_lk lv 0 = some (.ref x0)) (f1 : ab_lk lv 1 = some (.int x1)) : dc_pv u N ab_M_X9_come 0 lv [] m (Φ (d_X9_come x0 x1 m)) := by
  refine dc_pv.mono (dc_ok (C := C_X9_come) (S := S_X9_come) CO_X9_come 400 0 [(0, .ref x0), (1, .int x1)] lv [] m (dc_sub_cons f0 (dc_sub_cons f1 (dc_sub_nil))) ?_) (Nat.le_succ N)
  unfold d_X9_come
  refine dg_s (pc' := 1) [.ref x0] rfl (fun _ => rfl) rfl ?_
  refine dg_s (pc' := 4) [.ref (m.2.2.1 x0 7)] rfl (fun _ => rfl) rfl ?_
  refine dg_s (pc' := 5) [.int x1, .ref (m.2.2.1 x0 7)] rfl (fun _ => rfl) rfl ?_
  refine dg_s (pc' := 8) [.int (d_X3_hasEvent (m.2.2.1 x0 7) x1 m)] rfl (fun _ => rfl) rfl ?_
  refine dw_if (fun t => Φ t) (¬ (Int32.toInt (d_X3_hasEvent (m.2.2.1 x0 7) x1 m)) = 0) [] 13 11 rfl (fun _ => rfl) (fun c0 => ?_) (fun c0 => ?_)
  · refine dw_g rfl ?_
    refine dg_s (pc' := 14) [.ref x0] rfl (fun _ => rfl) rfl ?_
    refine dg_s (pc' := 17) [.ref (x0 + 36)] rfl (fun _ => rfl) rfl ?_
    refine dg_s (pc' := 18) [.ref x0, .ref (x0 + 36)] rfl (fun _ => rfl) rfl ?_
    refine dg_s (pc' := 21) [.ref (m.2.2.1 x0 7), .ref (x0 + 36)] rfl (fun _ => rfl) rfl ?_
    refine dg_s (pc' := 24) [.int (d_X2_markingOf (x0 + 36) (m.2.2.1 x0 7) m)] rfl (fun _ => rfl) rfl ?_
    refine dg_L (pc' := 25) [(2, .int (d_X2_markingOf (x0 + 36) (m.2.2.1 x0 7) m)), (0, .ref x0), (1, .int x1)] [] rfl (fun _ => rfl) rfl ?_
    refine dg_s (pc' := 26) [.ref x0] rfl (fun _ => rfl) rfl ?_
    refine dg_s (pc' := 29) [.ref (m.2.2.1 x0 7)] rfl (fun _ => rfl) rfl ?_
    refine dg_s (pc' := 30) [.int (d_X2_markingOf (x0 + 36) (m.2.2.1 x0 7) m), .ref (m.2.2.1 x0 7)] rfl (fun _ => rfl) rfl ?_
    refine dg_s (pc' := 31) [.int x1, .int (d_X2_markingOf (x0 + 36) (m.2.2.1 x0 7) m), .ref (m.2.2.1 x0 7)] rfl (fun _ => rfl) rfl ?_
    refine dg_s (pc' := 34) [.int (d_X3_canCome (m.2.2.1 x0 7) (d_X2_markingOf (x0 + 36) (m.2.2.1 x0 7) m) x1 m)] rfl (fun _ => rfl) rfl ?_
    refine dw_if (fun t => Φ t) (¬ (Int32.toInt (d_X3_canCome (m.2.2.1 x0 7) (d_X2_markingOf (x0 + 36) (m.2.2.1 x0 7) m) x1 m)) = 0) [] 40 37 rfl (fun _ => rfl) (fun c1 => ?_) (fun c1 => ?_)
    · refine dw_g rfl ?_
      refine dg_s (pc' := 41) [.ref x0] rfl (fun _ => rfl) rfl ?_
      refine dg_s (pc' := 44) [.ref (x0 + 36)] rfl (fun _ => rfl) rfl ?_
      refine dg_s (pc' := 45) [.int x1, .ref (x0 + 36)] rfl (fun _ => rfl) rfl ?_
      refine dg_s (pc' := 46) [.ref x0, .int x1, .ref (x0 + 36)] rfl (fun _ => rfl) rfl ?_
      refine dg_s (pc' := 49) [.ref (m.2.2.1 x0 7), .int x1, .ref (x0 + 36)] rfl (fun _ => rfl) rfl ?_
      refine dg_s (pc' := 50) [.int (d_X2_markingOf (x0 + 36) (m.2.2.1 x0 7) m), .ref (m.2.2.1 x0 7), .int x1, .ref (x0 + 36)] rfl (fun _ => rfl) rfl ?_
      refine dg_s (pc' := 51) [.int x1, .int (d_X2_markingOf (x0 + 36) (m.2.2.1 x0 7) m), .ref (m.2.2.1 x0 7), .int x1, .ref (x0 + 36)] rfl (fun _ => rfl) rfl ?_
      refine dg_s (pc' := 54) [.int (d_X3_after (m.2.2.1 x0 7) (d_X2_markingOf (x0 + 36) (m.2.2.1 x0 7) m) x1 m), .int x1, .ref (x0 + 36)] rfl (fun _ => rfl) rfl ?_
      refine dw_l (fun t => Φ t) (pc' := 57) (fun q1 => [.int q1.1]) (fun q1 => q1.2) rfl (fun _ => rfl) (fun q1 => ?_)
      refine dw_g rfl ?_
      refine dw_if (fun t => Φ t) ((Int32.toInt q1.1) = 0) [] 70 60 rfl (fun _ => rfl) (fun c2 => ?_) (fun c2 => ?_)
      · refine dw_g rfl ?_
        refine dg_s (pc' := 72) [.int (-3 : Int32)] rfl (fun _ => rfl) rfl ?_
        exact dw_r (some (.inl (some (.int (-3 : Int32)), q1.2))) rfl (fun _ => rfl) (kR _ _)
      · refine dw_g rfl ?_
        refine dg_s (pc' := 61) [.ref x0] rfl (fun _ => rfl) rfl ?_
        refine dg_s (pc' := 64) [.ref (x0 + 36)] rfl (fun _ => rfl) rfl ?_
        refine dg_s (pc' := 67) [.int (q1.2.1 (x0 + 36) 0)] rfl (fun _ => rfl) rfl ?_
        refine dg_s (pc' := 72) [.int (q1.2.1 (x0 + 36) 0)] rfl (fun _ => rfl) rfl ?_
        exact dw_r (some (.inl (some (.int (q1.2.1 (x0 + 36) 0)), q1.2))) rfl (fun _ => rfl) (kR _ _)
    · refine dw_g rfl ?_
      refine dg_s (pc' := 39) [.int (-2 : Int32)] rfl (fun _ => rfl) rfl ?_
      exact dw_r (some (.inl (some (.int (-2 : Int32)), m))) rfl (fun _ => rfl) (kR _ _)
  · refine dw_g rfl ?_
    refine dg_s (pc' := 12) [.int (-1 : Int32)] rfl (fun _ => rfl) rfl ?_
    exact dw_r (some (.inl (some (.int (-1 : Int32)), m))) rfl (fun _ => rfl) (kR _ _)
def H_X9_come : dc_H := fun As m k => match As with
  | [.ref x0, .int x1] => dc_let (d_X9_come x0 x1 m) (fun q => k (some (.int q.1)) q.2)
  | _ => dc_kz
theorem H_X9_come_ok {u : Nat} : dc_cok u 124 H_X9_come := fun M' hG N As m k P hz hP => by
  obtain rfl : ab_M_X9_come = M' := Option.some.inj hG
  unfold H_X9_come at hP
  split at hP
  · rename_i x0 x1
    exact dc_pv.imp (k_X9_come (Φ := fun (t : (Int32 × dc_M)) r m' => P (dc_let t (fun q => k (some (.int q.1)) q.2)) → P (k r m')) x0 x1 m (fun _ _ h => h) rfl rfl) (fun r m' h => h hP)
  · exact absurd hP hz
def C_X10_come : List (Nat × dc_H) := [(171, H_X10_after), (163, H_X10_isEvent), (169, H_X10_isReady), (170, H_X10_isUnsafe)]
theorem CO_X10_come {u : Nat} : dc_CO u C_X10_come := dc_CO_cons H_X10_after_ok (dc_CO_cons H_X10_isEvent_ok (dc_CO_cons H_X10_isReady_ok (dc_CO_cons H_X10_isUnsafe_ok (dc_CO_nil))))
def S_X10_come : List (Nat × List Nat) := []
def d_X10_come (x0 : Nat) (x1 : Int32) (m : dc_M) : (Int32 × dc_M) :=
  (if ¬ (Int32.toInt (d_X10_isEvent x0 x1 m)) = 0 then (if (Int32.toInt (d_X10_isReady x0 x1 (m.1 (x0 + 33) (Int32.toNatClampNeg (m.1 x0 64))) m)) = 0 then ((-2 : Int32), m) else (if (Int32.toInt (d_X10_isUnsafe x0 x1 (m.1 (x0 + 33) (Int32.toNatClampNeg (m.1 x0 64))) m)) = 0 then (if ¬ (Int32.toInt (m.1 x0 64)) = 100 then (((dc_wi (dc_wi (dc_wi m (x0 + 34) (Int32.toNatClampNeg (m.1 x0 64)) x1) x0 64 (((dc_wi m (x0 + 34) (Int32.toNatClampNeg (m.1 x0 64)) x1).1 x0 64) + (1 : Int32))) (x0 + 33) (Int32.toNatClampNeg ((dc_wi (dc_wi m (x0 + 34) (Int32.toNatClampNeg (m.1 x0 64)) x1) x0 64 (((dc_wi m (x0 + 34) (Int32.toNatClampNeg (m.1 x0 64)) x1).1 x0 64) + (1 : Int32))).1 x0 64)) (d_X10_after x0 x1 (m.1 (x0 + 33) (Int32.toNatClampNeg (m.1 x0 64))) (dc_wi (dc_wi m (x0 + 34) (Int32.toNatClampNeg (m.1 x0 64)) x1) x0 64 (((dc_wi m (x0 + 34) (Int32.toNatClampNeg (m.1 x0 64)) x1).1 x0 64) + (1 : Int32))))).1 x0 64), (dc_wi (dc_wi (dc_wi m (x0 + 34) (Int32.toNatClampNeg (m.1 x0 64)) x1) x0 64 (((dc_wi m (x0 + 34) (Int32.toNatClampNeg (m.1 x0 64)) x1).1 x0 64) + (1 : Int32))) (x0 + 33) (Int32.toNatClampNeg ((dc_wi (dc_wi m (x0 + 34) (Int32.toNatClampNeg (m.1 x0 64)) x1) x0 64 (((dc_wi m (x0 + 34) (Int32.toNatClampNeg (m.1 x0 64)) x1).1 x0 64) + (1 : Int32))).1 x0 64)) (d_X10_after x0 x1 (m.1 (x0 + 33) (Int32.toNatClampNeg (m.1 x0 64))) (dc_wi (dc_wi m (x0 + 34) (Int32.toNatClampNeg (m.1 x0 64)) x1) x0 64 (((dc_wi m (x0 + 34) (Int32.toNatClampNeg (m.1 x0 64)) x1).1 x0 64) + (1 : Int32)))))) else ((-3 : Int32), m)) else ((-2 : Int32), m))) else ((-1 : Int32), m))
set_option maxHeartbeats 8000000 in
theorem k_X10_come {u : Nat} {N : Nat} {Φ : (Int32 × dc_M) → Option Value → dc_M → Prop} (x0 : Nat) (x1 : Int32) (m : dc_M) (kR : ∀ (v : Int32) (m : dc_M), Φ ((v, m)) (some (.int v)) m)  {lv : ab_L} (f0 : ab_lk lv 0 = some (.ref x0)) (f1 : ab_lk lv 1 = some (.int x1)) : dc_pv u N ab_M_X10_come 0 lv [] m (Φ (d_X10_come x0 x1 m)) := by
  refine dc_pv.mono (dc_ok (C := C_X10_come) (S := S_X10_come) CO_X10_come 400 0 [(0, .ref x0), (1, .int x1)] lv [] m (dc_sub_cons f0 (dc_sub_cons f1 (dc_sub_nil))) ?_) (Nat.le_succ N)
  unfold d_X10_come
  refine dg_s (pc' := 1) [.ref x0] rfl (fun _ => rfl) rfl ?_
  refine dg_s (pc' := 2) [.int x1, .ref x0] rfl (fun _ => rfl) rfl ?_
  refine dg_s (pc' := 5) [.int (d_X10_isEvent x0 x1 m)] rfl (fun _ => rfl) rfl ?_
  refine dw_if (fun t => Φ t) (¬ (Int32.toInt (d_X10_isEvent x0 x1 m)) = 0) [] 10 8 rfl (fun _ => rfl) (fun c0 => ?_) (fun c0 => ?_)
  · refine dw_g rfl ?_
    refine dg_s (pc' := 11) [.ref x0] rfl (fun _ => rfl) rfl ?_
    refine dg_s (pc' := 14) [.ref (x0 + 33)] rfl (fun _ => rfl) rfl ?_
    refine dg_s (pc' := 15) [.ref x0, .ref (x0 + 33)] rfl (fun _ => rfl) rfl ?_
    refine dg_s (pc' := 18) [.int (m.1 x0 64), .ref (x0 + 33)] rfl (fun _ => rfl) rfl ?_
    refine dg_s (pc' := 19) [.int (m.1 (x0 + 33) (Int32.toNatClampNeg (m.1 x0 64)))] rfl (fun _ => rfl) rfl ?_
    refine dg_L (pc' := 20) [(2, .int (m.1 (x0 + 33) (Int32.toNatClampNeg (m.1 x0 64)))), (0, .ref x0), (1, .int x1)] [] rfl (fun _ => rfl) rfl ?_
    refine dg_s (pc' := 21) [.ref x0] rfl (fun _ => rfl) rfl ?_
    refine dg_s (pc' := 22) [.int x1, .ref x0] rfl (fun _ => rfl) rfl ?_
    refine dg_s (pc' := 23) [.int (m.1 (x0 + 33) (Int32.toNatClampNeg (m.1 x0 64))), .int x1, .ref x0] rfl (fun _ => rfl) rfl ?_
    refine dg_s (pc' := 26) [.int (d_X10_isReady x0 x1 (m.1 (x0 + 33) (Int32.toNatClampNeg (m.1 x0 64))) m)] rfl (fun _ => rfl) rfl ?_
    refine dw_if (fun t => Φ t) ((Int32.toInt (d_X10_isReady x0 x1 (m.1 (x0 + 33) (Int32.toNatClampNeg (m.1 x0 64))) m)) = 0) [] 38 29 rfl (fun _ => rfl) (fun c1 => ?_) (fun c1 => ?_)
    · refine dw_g rfl ?_
      refine dg_s (pc' := 40) [.int (-2 : Int32)] rfl (fun _ => rfl) rfl ?_
      exact dw_r (some (.inl (some (.int (-2 : Int32)), m))) rfl (fun _ => rfl) (kR _ _)
    · refine dw_g rfl ?_
      refine dg_s (pc' := 30) [.ref x0] rfl (fun _ => rfl) rfl ?_
      refine dg_s (pc' := 31) [.int x1, .ref x0] rfl (fun _ => rfl) rfl ?_
      refine dg_s (pc' := 32) [.int (m.1 (x0 + 33) (Int32.toNatClampNeg (m.1 x0 64))), .int x1, .ref x0] rfl (fun _ => rfl) rfl ?_
      refine dg_s (pc' := 35) [.int (d_X10_isUnsafe x0 x1 (m.1 (x0 + 33) (Int32.toNatClampNeg (m.1 x0 64))) m)] rfl (fun _ => rfl) rfl ?_
      refine dw_if (fun t => Φ t) ((Int32.toInt (d_X10_isUnsafe x0 x1 (m.1 (x0 + 33) (Int32.toNatClampNeg (m.1 x0 64))) m)) = 0) [] 41 38 rfl (fun _ => rfl) (fun c2 => ?_) (fun c2 => ?_)
      · refine dw_g rfl ?_
        refine dg_s (pc' := 42) [.ref x0] rfl (fun _ => rfl) rfl ?_
        refine dg_s (pc' := 45) [.int (m.1 x0 64)] rfl (fun _ => rfl) rfl ?_
        refine dg_s (pc' := 47) [.int (100 : Int32), .int (m.1 x0 64)] rfl (fun _ => rfl) rfl ?_
        refine dw_if (fun t => Φ t) (¬ (Int32.toInt (m.1 x0 64)) = 100) [] 53 50 rfl (fun _ => rfl) (fun c3 => ?_) (fun c3 => ?_)
        · refine dw_g rfl ?_
          refine dg_s (pc' := 54) [.ref x0] rfl (fun _ => rfl) rfl ?_
          refine dg_s (pc' := 57) [.ref (x0 + 34)] rfl (fun _ => rfl) rfl ?_
          refine dg_s (pc' := 58) [.ref x0, .ref (x0 + 34)] rfl (fun _ => rfl) rfl ?_
          refine dg_s (pc' := 61) [.int (m.1 x0 64), .ref (x0 + 34)] rfl (fun _ => rfl) rfl ?_
          refine dg_s (pc' := 62) [.int x1, .int (m.1 x0 64), .ref (x0 + 34)] rfl (fun _ => rfl) rfl ?_
          refine dg_m (pc' := 63) (dc_wi m (x0 + 34) (Int32.toNatClampNeg (m.1 x0 64)) x1) [] rfl (fun _ => rfl) rfl ?_
          refine dg_s (pc' := 64) [.ref x0] rfl (fun _ => rfl) rfl ?_
          refine dg_s (pc' := 65) [.ref x0, .ref x0] rfl (fun _ => rfl) rfl ?_
          refine dg_s (pc' := 68) [.int ((dc_wi m (x0 + 34) (Int32.toNatClampNeg (m.1 x0 64)) x1).1 x0 64), .ref x0] rfl (fun _ => rfl) rfl ?_
          refine dg_s (pc' := 69) [.int (1 : Int32), .int ((dc_wi m (x0 + 34) (Int32.toNatClampNeg (m.1 x0 64)) x1).1 x0 64), .ref x0] rfl (fun _ => rfl) rfl ?_
          refine dg_s (pc' := 70) [.int (((dc_wi m (x0 + 34) (Int32.toNatClampNeg (m.1 x0 64)) x1).1 x0 64) + (1 : Int32)), .ref x0] rfl (fun _ => rfl) rfl ?_
          refine dg_m (pc' := 73) (dc_wi (dc_wi m (x0 + 34) (Int32.toNatClampNeg (m.1 x0 64)) x1) x0 64 (((dc_wi m (x0 + 34) (Int32.toNatClampNeg (m.1 x0 64)) x1).1 x0 64) + (1 : Int32))) [] rfl (fun _ => rfl) rfl ?_
          refine dg_s (pc' := 74) [.ref x0] rfl (fun _ => rfl) rfl ?_
          refine dg_s (pc' := 77) [.ref (x0 + 33)] rfl (fun _ => rfl) rfl ?_
          refine dg_s (pc' := 78) [.ref x0, .ref (x0 + 33)] rfl (fun _ => rfl) rfl ?_
          refine dg_s (pc' := 81) [.int ((dc_wi (dc_wi m (x0 + 34) (Int32.toNatClampNeg (m.1 x0 64)) x1) x0 64 (((dc_wi m (x0 + 34) (Int32.toNatClampNeg (m.1 x0 64)) x1).1 x0 64) + (1 : Int32))).1 x0 64), .ref (x0 + 33)] rfl (fun _ => rfl) rfl ?_
          refine dg_s (pc' := 82) [.ref x0, .int ((dc_wi (dc_wi m (x0 + 34) (Int32.toNatClampNeg (m.1 x0 64)) x1) x0 64 (((dc_wi m (x0 + 34) (Int32.toNatClampNeg (m.1 x0 64)) x1).1 x0 64) + (1 : Int32))).1 x0 64), .ref (x0 + 33)] rfl (fun _ => rfl) rfl ?_
          refine dg_s (pc' := 83) [.int x1, .ref x0, .int ((dc_wi (dc_wi m (x0 + 34) (Int32.toNatClampNeg (m.1 x0 64)) x1) x0 64 (((dc_wi m (x0 + 34) (Int32.toNatClampNeg (m.1 x0 64)) x1).1 x0 64) + (1 : Int32))).1 x0 64), .ref (x0 + 33)] rfl (fun _ => rfl) rfl ?_
          refine dg_s (pc' := 84) [.int (m.1 (x0 + 33) (Int32.toNatClampNeg (m.1 x0 64))), .int x1, .ref x0, .int ((dc_wi (dc_wi m (x0 + 34) (Int32.toNatClampNeg (m.1 x0 64)) x1) x0 64 (((dc_wi m (x0 + 34) (Int32.toNatClampNeg (m.1 x0 64)) x1).1 x0 64) + (1 : Int32))).1 x0 64), .ref (x0 + 33)] rfl (fun _ => rfl) rfl ?_
          refine dg_s (pc' := 87) [.int (d_X10_after x0 x1 (m.1 (x0 + 33) (Int32.toNatClampNeg (m.1 x0 64))) (dc_wi (dc_wi m (x0 + 34) (Int32.toNatClampNeg (m.1 x0 64)) x1) x0 64 (((dc_wi m (x0 + 34) (Int32.toNatClampNeg (m.1 x0 64)) x1).1 x0 64) + (1 : Int32)))), .int ((dc_wi (dc_wi m (x0 + 34) (Int32.toNatClampNeg (m.1 x0 64)) x1) x0 64 (((dc_wi m (x0 + 34) (Int32.toNatClampNeg (m.1 x0 64)) x1).1 x0 64) + (1 : Int32))).1 x0 64), .ref (x0 + 33)] rfl (fun _ => rfl) rfl ?_
          refine dg_m (pc' := 88) (dc_wi (dc_wi (dc_wi m (x0 + 34) (Int32.toNatClampNeg (m.1 x0 64)) x1) x0 64 (((dc_wi m (x0 + 34) (Int32.toNatClampNeg (m.1 x0 64)) x1).1 x0 64) + (1 : Int32))) (x0 + 33) (Int32.toNatClampNeg ((dc_wi (dc_wi m (x0 + 34) (Int32.toNatClampNeg (m.1 x0 64)) x1) x0 64 (((dc_wi m (x0 + 34) (Int32.toNatClampNeg (m.1 x0 64)) x1).1 x0 64) + (1 : Int32))).1 x0 64)) (d_X10_after x0 x1 (m.1 (x0 + 33) (Int32.toNatClampNeg (m.1 x0 64))) (dc_wi (dc_wi m (x0 + 34) (Int32.toNatClampNeg (m.1 x0 64)) x1) x0 64 (((dc_wi m (x0 + 34) (Int32.toNatClampNeg (m.1 x0 64)) x1).1 x0 64) + (1 : Int32))))) [] rfl (fun _ => rfl) rfl ?_
          refine dg_s (pc' := 89) [.ref x0] rfl (fun _ => rfl) rfl ?_
          refine dg_s (pc' := 92) [.int ((dc_wi (dc_wi (dc_wi m (x0 + 34) (Int32.toNatClampNeg (m.1 x0 64)) x1) x0 64 (((dc_wi m (x0 + 34) (Int32.toNatClampNeg (m.1 x0 64)) x1).1 x0 64) + (1 : Int32))) (x0 + 33) (Int32.toNatClampNeg ((dc_wi (dc_wi m (x0 + 34) (Int32.toNatClampNeg (m.1 x0 64)) x1) x0 64 (((dc_wi m (x0 + 34) (Int32.toNatClampNeg (m.1 x0 64)) x1).1 x0 64) + (1 : Int32))).1 x0 64)) (d_X10_after x0 x1 (m.1 (x0 + 33) (Int32.toNatClampNeg (m.1 x0 64))) (dc_wi (dc_wi m (x0 + 34) (Int32.toNatClampNeg (m.1 x0 64)) x1) x0 64 (((dc_wi m (x0 + 34) (Int32.toNatClampNeg (m.1 x0 64)) x1).1 x0 64) + (1 : Int32))))).1 x0 64)] rfl (fun _ => rfl) rfl ?_
          exact dw_r (some (.inl (some (.int ((dc_wi (dc_wi (dc_wi m (x0 + 34) (Int32.toNatClampNeg (m.1 x0 64)) x1) x0 64 (((dc_wi m (x0 + 34) (Int32.toNatClampNeg (m.1 x0 64)) x1).1 x0 64) + (1 : Int32))) (x0 + 33) (Int32.toNatClampNeg ((dc_wi (dc_wi m (x0 + 34) (Int32.toNatClampNeg (m.1 x0 64)) x1) x0 64 (((dc_wi m (x0 + 34) (Int32.toNatClampNeg (m.1 x0 64)) x1).1 x0 64) + (1 : Int32))).1 x0 64)) (d_X10_after x0 x1 (m.1 (x0 + 33) (Int32.toNatClampNeg (m.1 x0 64))) (dc_wi (dc_wi m (x0 + 34) (Int32.toNatClampNeg (m.1 x0 64)) x1) x0 64 (((dc_wi m (x0 + 34) (Int32.toNatClampNeg (m.1 x0 64)) x1).1 x0 64) + (1 : Int32))))).1 x0 64)), (dc_wi (dc_wi (dc_wi m (x0 + 34) (Int32.toNatClampNeg (m.1 x0 64)) x1) x0 64 (((dc_wi m (x0 + 34) (Int32.toNatClampNeg (m.1 x0 64)) x1).1 x0 64) + (1 : Int32))) (x0 + 33) (Int32.toNatClampNeg ((dc_wi (dc_wi m (x0 + 34) (Int32.toNatClampNeg (m.1 x0 64)) x1) x0 64 (((dc_wi m (x0 + 34) (Int32.toNatClampNeg (m.1 x0 64)) x1).1 x0 64) + (1 : Int32))).1 x0 64)) (d_X10_after x0 x1 (m.1 (x0 + 33) (Int32.toNatClampNeg (m.1 x0 64))) (dc_wi (dc_wi m (x0 + 34) (Int32.toNatClampNeg (m.1 x0 64)) x1) x0 64 (((dc_wi m (x0 + 34) (Int32.toNatClampNeg (m.1 x0 64)) x1).1 x0 64) + (1 : Int32)))))))) rfl (fun _ => rfl) (kR _ _)
        · refine dw_g rfl ?_
          refine dg_s (pc' := 52) [.int (-3 : Int32)] rfl (fun _ => rfl) rfl ?_
          exact dw_r (some (.inl (some (.int (-3 : Int32)), m))) rfl (fun _ => rfl) (kR _ _)
      · refine dw_g rfl ?_
        refine dg_s (pc' := 40) [.int (-2 : Int32)] rfl (fun _ => rfl) rfl ?_
        exact dw_r (some (.inl (some (.int (-2 : Int32)), m))) rfl (fun _ => rfl) (kR _ _)
  · refine dw_g rfl ?_
    refine dg_s (pc' := 9) [.int (-1 : Int32)] rfl (fun _ => rfl) rfl ?_
    exact dw_r (some (.inl (some (.int (-1 : Int32)), m))) rfl (fun _ => rfl) (kR _ _)
def H_X10_come : dc_H := fun As m k => match As with
  | [.ref x0, .int x1] => dc_let (d_X10_come x0 x1 m) (fun q => k (some (.int q.1)) q.2)
  | _ => dc_kz
theorem H_X10_come_ok {u : Nat} : dc_cok u 222 H_X10_come := fun M' hG N As m k P hz hP => by
  obtain rfl : ab_M_X10_come = M' := Option.some.inj hG
  unfold H_X10_come at hP
  split at hP
  · rename_i x0 x1
    exact dc_pv.imp (k_X10_come (Φ := fun (t : (Int32 × dc_M)) r m' => P (dc_let t (fun q => k (some (.int q.1)) q.2)) → P (k r m')) x0 x1 m (fun _ _ h => h) rfl rfl) (fun r m' h => h hP)
  · exact absurd hP hz
def C_X2_dropLatest : List (Nat × dc_H) := []
theorem CO_X2_dropLatest {u : Nat} : dc_CO u C_X2_dropLatest := dc_CO_nil
def S_X2_dropLatest : List (Nat × List Nat) := []
def d_X2_dropLatest (x0 : Nat) (m : dc_M) : (Int32 × dc_M) :=
  (if 0 < (Int32.toInt (m.1 x0 0)) then ((1 : Int32), (dc_wi m x0 0 ((m.1 x0 0) - (1 : Int32)))) else ((0 : Int32), m))
set_option maxHeartbeats 8000000 in
theorem k_X2_dropLatest {u : Nat} {N : Nat} {Φ : (Int32 × dc_M) → Option Value → dc_M → Prop} (x0 : Nat) (m : dc_M) (kR : ∀ (v : Int32) (m : dc_M), Φ ((v, m)) (some (.int v)) m)  {lv : ab_L} (f0 : ab_lk lv 0 = some (.ref x0)) : dc_pv u N ab_M_X2_dropLatest 0 lv [] m (Φ (d_X2_dropLatest x0 m)) := by
  refine dc_pv.mono (dc_ok (C := C_X2_dropLatest) (S := S_X2_dropLatest) CO_X2_dropLatest 400 0 [(0, .ref x0)] lv [] m (dc_sub_cons f0 (dc_sub_nil)) ?_) (Nat.le_succ N)
  unfold d_X2_dropLatest
  refine dg_s (pc' := 1) [.ref x0] rfl (fun _ => rfl) rfl ?_
  refine dg_s (pc' := 4) [.int (m.1 x0 0)] rfl (fun _ => rfl) rfl ?_
  refine dw_if (fun t => Φ t) (0 < (Int32.toInt (m.1 x0 0))) [] 9 7 rfl (fun _ => rfl) (fun c0 => ?_) (fun c0 => ?_)
  · refine dw_g rfl ?_
    refine dg_s (pc' := 10) [.ref x0] rfl (fun _ => rfl) rfl ?_
    refine dg_s (pc' := 11) [.ref x0, .ref x0] rfl (fun _ => rfl) rfl ?_
    refine dg_s (pc' := 14) [.int (m.1 x0 0), .ref x0] rfl (fun _ => rfl) rfl ?_
    refine dg_s (pc' := 15) [.int (1 : Int32), .int (m.1 x0 0), .ref x0] rfl (fun _ => rfl) rfl ?_
    refine dg_s (pc' := 16) [.int ((m.1 x0 0) - (1 : Int32)), .ref x0] rfl (fun _ => rfl) rfl ?_
    refine dg_m (pc' := 19) (dc_wi m x0 0 ((m.1 x0 0) - (1 : Int32))) [] rfl (fun _ => rfl) rfl ?_
    refine dg_s (pc' := 20) [.int (1 : Int32)] rfl (fun _ => rfl) rfl ?_
    exact dw_r (some (.inl (some (.int (1 : Int32)), (dc_wi m x0 0 ((m.1 x0 0) - (1 : Int32)))))) rfl (fun _ => rfl) (kR _ _)
  · refine dw_g rfl ?_
    refine dg_s (pc' := 8) [.int (0 : Int32)] rfl (fun _ => rfl) rfl ?_
    exact dw_r (some (.inl (some (.int (0 : Int32)), m))) rfl (fun _ => rfl) (kR _ _)
def H_X2_dropLatest : dc_H := fun As m k => match As with
  | [.ref x0] => dc_let (d_X2_dropLatest x0 m) (fun q => k (some (.int q.1)) q.2)
  | _ => dc_kz
theorem H_X2_dropLatest_ok {u : Nat} : dc_cok u 21 H_X2_dropLatest := fun M' hG N As m k P hz hP => by
  obtain rfl : ab_M_X2_dropLatest = M' := Option.some.inj hG
  unfold H_X2_dropLatest at hP
  split at hP
  · rename_i x0
    exact dc_pv.imp (k_X2_dropLatest (Φ := fun (t : (Int32 × dc_M)) r m' => P (dc_let t (fun q => k (some (.int q.1)) q.2)) → P (k r m')) x0 m (fun _ _ h => h) rfl) (fun r m' h => h hP)
  · exact absurd hP hz
def C_X9_undo : List (Nat × dc_H) := [(21, H_X2_dropLatest)]
theorem CO_X9_undo {u : Nat} : dc_CO u C_X9_undo := dc_CO_cons H_X2_dropLatest_ok (dc_CO_nil)
def S_X9_undo : List (Nat × List Nat) := []
def d_X9_undo (x0 : Nat) (m : dc_M) : (Int32 × dc_M) :=
  (dc_let (d_X2_dropLatest (x0 + 36) m) (fun q1 => (if (Int32.toInt q1.1) = 0 then ((-4 : Int32), q1.2) else ((q1.2.1 (x0 + 36) 0), q1.2))))
set_option maxHeartbeats 8000000 in
theorem k_X9_undo {u : Nat} {N : Nat} {Φ : (Int32 × dc_M) → Option Value → dc_M → Prop} (x0 : Nat) (m : dc_M) (kR : ∀ (v : Int32) (m : dc_M), Φ ((v, m)) (some (.int v)) m)  {lv : ab_L} (f0 : ab_lk lv 0 = some (.ref x0)) : dc_pv u N ab_M_X9_undo 0 lv [] m (Φ (d_X9_undo x0 m)) := by
  refine dc_pv.mono (dc_ok (C := C_X9_undo) (S := S_X9_undo) CO_X9_undo 400 0 [(0, .ref x0)] lv [] m (dc_sub_cons f0 (dc_sub_nil)) ?_) (Nat.le_succ N)
  unfold d_X9_undo
  refine dg_s (pc' := 1) [.ref x0] rfl (fun _ => rfl) rfl ?_
  refine dg_s (pc' := 4) [.ref (x0 + 36)] rfl (fun _ => rfl) rfl ?_
  refine dw_l (fun t => Φ t) (pc' := 7) (fun q1 => [.int q1.1]) (fun q1 => q1.2) rfl (fun _ => rfl) (fun q1 => ?_)
  refine dw_g rfl ?_
  refine dw_if (fun t => Φ t) ((Int32.toInt q1.1) = 0) [] 20 10 rfl (fun _ => rfl) (fun c0 => ?_) (fun c0 => ?_)
  · refine dw_g rfl ?_
    refine dg_s (pc' := 22) [.int (-4 : Int32)] rfl (fun _ => rfl) rfl ?_
    exact dw_r (some (.inl (some (.int (-4 : Int32)), q1.2))) rfl (fun _ => rfl) (kR _ _)
  · refine dw_g rfl ?_
    refine dg_s (pc' := 11) [.ref x0] rfl (fun _ => rfl) rfl ?_
    refine dg_s (pc' := 14) [.ref (x0 + 36)] rfl (fun _ => rfl) rfl ?_
    refine dg_s (pc' := 17) [.int (q1.2.1 (x0 + 36) 0)] rfl (fun _ => rfl) rfl ?_
    refine dg_s (pc' := 22) [.int (q1.2.1 (x0 + 36) 0)] rfl (fun _ => rfl) rfl ?_
    exact dw_r (some (.inl (some (.int (q1.2.1 (x0 + 36) 0)), q1.2))) rfl (fun _ => rfl) (kR _ _)
def H_X9_undo : dc_H := fun As m k => match As with
  | [.ref x0] => dc_let (d_X9_undo x0 m) (fun q => k (some (.int q.1)) q.2)
  | _ => dc_kz
theorem H_X9_undo_ok {u : Nat} : dc_cok u 125 H_X9_undo := fun M' hG N As m k P hz hP => by
  obtain rfl : ab_M_X9_undo = M' := Option.some.inj hG
  unfold H_X9_undo at hP
  split at hP
  · rename_i x0
    exact dc_pv.imp (k_X9_undo (Φ := fun (t : (Int32 × dc_M)) r m' => P (dc_let t (fun q => k (some (.int q.1)) q.2)) → P (k r m')) x0 m (fun _ _ h => h) rfl) (fun r m' h => h hP)
  · exact absurd hP hz
def C_X10_undo : List (Nat × dc_H) := []
theorem CO_X10_undo {u : Nat} : dc_CO u C_X10_undo := dc_CO_nil
def S_X10_undo : List (Nat × List Nat) := []
def d_X10_undo (x0 : Nat) (m : dc_M) : (Int32 × dc_M) :=
  (if ¬ (Int32.toInt (m.1 x0 64)) = 0 then (((dc_wi m x0 64 ((m.1 x0 64) - (1 : Int32))).1 x0 64), (dc_wi m x0 64 ((m.1 x0 64) - (1 : Int32)))) else ((-4 : Int32), m))
set_option maxHeartbeats 8000000 in
theorem k_X10_undo {u : Nat} {N : Nat} {Φ : (Int32 × dc_M) → Option Value → dc_M → Prop} (x0 : Nat) (m : dc_M) (kR : ∀ (v : Int32) (m : dc_M), Φ ((v, m)) (some (.int v)) m)  {lv : ab_L} (f0 : ab_lk lv 0 = some (.ref x0)) : dc_pv u N ab_M_X10_undo 0 lv [] m (Φ (d_X10_undo x0 m)) := by
  refine dc_pv.mono (dc_ok (C := C_X10_undo) (S := S_X10_undo) CO_X10_undo 400 0 [(0, .ref x0)] lv [] m (dc_sub_cons f0 (dc_sub_nil)) ?_) (Nat.le_succ N)
  unfold d_X10_undo
  refine dg_s (pc' := 1) [.ref x0] rfl (fun _ => rfl) rfl ?_
  refine dg_s (pc' := 4) [.int (m.1 x0 64)] rfl (fun _ => rfl) rfl ?_
  refine dw_if (fun t => Φ t) (¬ (Int32.toInt (m.1 x0 64)) = 0) [] 10 7 rfl (fun _ => rfl) (fun c0 => ?_) (fun c0 => ?_)
  · refine dw_g rfl ?_
    refine dg_s (pc' := 11) [.ref x0] rfl (fun _ => rfl) rfl ?_
    refine dg_s (pc' := 12) [.ref x0, .ref x0] rfl (fun _ => rfl) rfl ?_
    refine dg_s (pc' := 15) [.int (m.1 x0 64), .ref x0] rfl (fun _ => rfl) rfl ?_
    refine dg_s (pc' := 16) [.int (1 : Int32), .int (m.1 x0 64), .ref x0] rfl (fun _ => rfl) rfl ?_
    refine dg_s (pc' := 17) [.int ((m.1 x0 64) - (1 : Int32)), .ref x0] rfl (fun _ => rfl) rfl ?_
    refine dg_m (pc' := 20) (dc_wi m x0 64 ((m.1 x0 64) - (1 : Int32))) [] rfl (fun _ => rfl) rfl ?_
    refine dg_s (pc' := 21) [.ref x0] rfl (fun _ => rfl) rfl ?_
    refine dg_s (pc' := 24) [.int ((dc_wi m x0 64 ((m.1 x0 64) - (1 : Int32))).1 x0 64)] rfl (fun _ => rfl) rfl ?_
    exact dw_r (some (.inl (some (.int ((dc_wi m x0 64 ((m.1 x0 64) - (1 : Int32))).1 x0 64)), (dc_wi m x0 64 ((m.1 x0 64) - (1 : Int32)))))) rfl (fun _ => rfl) (kR _ _)
  · refine dw_g rfl ?_
    refine dg_s (pc' := 9) [.int (-4 : Int32)] rfl (fun _ => rfl) rfl ?_
    exact dw_r (some (.inl (some (.int (-4 : Int32)), m))) rfl (fun _ => rfl) (kR _ _)
def H_X10_undo : dc_H := fun As m k => match As with
  | [.ref x0] => dc_let (d_X10_undo x0 m) (fun q => k (some (.int q.1)) q.2)
  | _ => dc_kz
theorem H_X10_undo_ok {u : Nat} : dc_cok u 223 H_X10_undo := fun M' hG N As m k P hz hP => by
  obtain rfl : ab_M_X10_undo = M' := Option.some.inj hG
  unfold H_X10_undo at hP
  split at hP
  · rename_i x0
    exact dc_pv.imp (k_X10_undo (Φ := fun (t : (Int32 × dc_M)) r m' => P (dc_let t (fun q => k (some (.int q.1)) q.2)) → P (k r m')) x0 m (fun _ _ h => h) rfl) (fun r m' h => h hP)
  · exact absurd hP hz
def C_X2_latest : List (Nat × dc_H) := []
theorem CO_X2_latest {u : Nat} : dc_CO u C_X2_latest := dc_CO_nil
def S_X2_latest : List (Nat × List Nat) := []
def d_X2_latest (x0 : Nat) (m : dc_M) : Int32 :=
  (if (Int32.toInt (m.1 x0 0)) ≤ 0 then (-4 : Int32) else (if 100 < (Int32.toInt (m.1 x0 0)) then (-4 : Int32) else (m.1 (x0 + 1) (Int32.toNatClampNeg ((m.1 x0 0) - (1 : Int32))))))
set_option maxHeartbeats 8000000 in
theorem k_X2_latest {u : Nat} {N : Nat} {Φ : Int32 → Option Value → dc_M → Prop} (x0 : Nat) (m : dc_M) (kR : ∀ (v : Int32), Φ (v) (some (.int v)) m)  {lv : ab_L} (f0 : ab_lk lv 0 = some (.ref x0)) : dc_pv u N ab_M_X2_latest 0 lv [] m (Φ (d_X2_latest x0 m)) := by
  refine dc_pv.mono (dc_ok (C := C_X2_latest) (S := S_X2_latest) CO_X2_latest 400 0 [(0, .ref x0)] lv [] m (dc_sub_cons f0 (dc_sub_nil)) ?_) (Nat.le_succ N)
  unfold d_X2_latest
  refine dg_s (pc' := 1) [.ref x0] rfl (fun _ => rfl) rfl ?_
  refine dg_s (pc' := 4) [.int (m.1 x0 0)] rfl (fun _ => rfl) rfl ?_
  refine dw_if (fun t => Φ t) ((Int32.toInt (m.1 x0 0)) ≤ 0) [] 30 7 rfl (fun _ => rfl) (fun c0 => ?_) (fun c0 => ?_)
  · refine dw_g rfl ?_
    refine dg_s (pc' := 32) [.int (-4 : Int32)] rfl (fun _ => rfl) rfl ?_
    exact dw_r (some (.inl (some (.int (-4 : Int32)), m))) rfl (fun _ => rfl) (kR _)
  · refine dw_g rfl ?_
    refine dg_s (pc' := 8) [.ref x0] rfl (fun _ => rfl) rfl ?_
    refine dg_s (pc' := 11) [.int (m.1 x0 0)] rfl (fun _ => rfl) rfl ?_
    refine dg_s (pc' := 13) [.int (100 : Int32), .int (m.1 x0 0)] rfl (fun _ => rfl) rfl ?_
    refine dw_if (fun t => Φ t) (100 < (Int32.toInt (m.1 x0 0))) [] 30 16 rfl (fun _ => rfl) (fun c1 => ?_) (fun c1 => ?_)
    · refine dw_g rfl ?_
      refine dg_s (pc' := 32) [.int (-4 : Int32)] rfl (fun _ => rfl) rfl ?_
      exact dw_r (some (.inl (some (.int (-4 : Int32)), m))) rfl (fun _ => rfl) (kR _)
    · refine dw_g rfl ?_
      refine dg_s (pc' := 17) [.ref x0] rfl (fun _ => rfl) rfl ?_
      refine dg_s (pc' := 20) [.ref (x0 + 1)] rfl (fun _ => rfl) rfl ?_
      refine dg_s (pc' := 21) [.ref x0, .ref (x0 + 1)] rfl (fun _ => rfl) rfl ?_
      refine dg_s (pc' := 24) [.int (m.1 x0 0), .ref (x0 + 1)] rfl (fun _ => rfl) rfl ?_
      refine dg_s (pc' := 25) [.int (1 : Int32), .int (m.1 x0 0), .ref (x0 + 1)] rfl (fun _ => rfl) rfl ?_
      refine dg_s (pc' := 26) [.int ((m.1 x0 0) - (1 : Int32)), .ref (x0 + 1)] rfl (fun _ => rfl) rfl ?_
      refine dg_s (pc' := 27) [.int (m.1 (x0 + 1) (Int32.toNatClampNeg ((m.1 x0 0) - (1 : Int32))))] rfl (fun _ => rfl) rfl ?_
      refine dg_s (pc' := 32) [.int (m.1 (x0 + 1) (Int32.toNatClampNeg ((m.1 x0 0) - (1 : Int32))))] rfl (fun _ => rfl) rfl ?_
      exact dw_r (some (.inl (some (.int (m.1 (x0 + 1) (Int32.toNatClampNeg ((m.1 x0 0) - (1 : Int32))))), m))) rfl (fun _ => rfl) (kR _)
def H_X2_latest : dc_H := fun As m k => match As with
  | [.ref x0] => k (some (.int (d_X2_latest x0 m))) m
  | _ => dc_kz
theorem H_X2_latest_ok {u : Nat} : dc_cok u 19 H_X2_latest := fun M' hG N As m k P hz hP => by
  obtain rfl : ab_M_X2_latest = M' := Option.some.inj hG
  unfold H_X2_latest at hP
  split at hP
  · rename_i x0
    exact dc_pv.imp (k_X2_latest (Φ := fun (t : Int32) r m' => P (k (some (.int t)) m) → P (k r m')) x0 m (fun _  h => h) rfl) (fun r m' h => h hP)
  · exact absurd hP hz
def C_X3_readyAt : List (Nat × dc_H) := [(36, H_X3_isReady)]
theorem CO_X3_readyAt {u : Nat} : dc_CO u C_X3_readyAt := dc_CO_cons H_X3_isReady_ok (dc_CO_nil)
def S_X3_readyAt : List (Nat × List Nat) := [(4, [0, 1, 2, 3])]
noncomputable def d_X3_readyAt_l4b (x0 : Nat) (x1 : Int32) (x2 : Int32) (x3 : Int32) (m : dc_M) : Option ((Int32 × Int32) ⊕ Int32) :=
  (if (Int32.toInt (m.1 x0 1)) ≤ (Int32.toInt x3) then some (Sum.inr (x2)) else (if (Int32.toInt (d_X3_isReady x0 x1 x3 m)) = 0 then some (Sum.inl (x2, (x3 + (1 : Int32)))) else some (Sum.inl ((x2 ||| ((1 : Int32) <<< (x3 &&& 31))), (x3 + (1 : Int32))))))
noncomputable def d_X3_readyAt_l4s (x0 : Nat) (x1 : Int32) (m : dc_M) : (Int32 × Int32) → Option ((Int32 × Int32) ⊕ Int32) := fun s => d_X3_readyAt_l4b x0 x1 s.1 s.2 m
noncomputable def d_X3_readyAt_l4 (x0 : Nat) (x1 : Int32) (x2 : Int32) (x3 : Int32) (m : dc_M) : Option Int32 := dc_lp (d_X3_readyAt_l4s x0 x1 m) (x2, x3)
set_option maxHeartbeats 8000000 in
theorem k_X3_readyAt_l4 {u : Nat} {Φ : (Option Int32) → Option Value → dc_M → Prop} (x0 : Nat) (x1 : Int32) (m : dc_M) (kR : ∀ (v : Int32), Φ (some (v)) (some (.int v)) m) : ∀ (N : Nat), ∀ (x2 : Int32) (x3 : Int32) (lv : ab_L), ab_lk lv 0 = some (.ref x0) → ab_lk lv 1 = some (.int x1) → ab_lk lv 2 = some (.int x2) → ab_lk lv 3 = some (.int x3) → dc_pv u N ab_M_X3_readyAt 4 lv [] m (Φ (d_X3_readyAt_l4 x0 x1 x2 x3 m)) := by
  intro N
  induction N with
  | zero => intros; exact dc_pv_zero
  | succ N ih =>
    intro x2 x3 lv f0 f1 f2 f3
    refine dc_ok (C := C_X3_readyAt) (S := S_X3_readyAt) CO_X3_readyAt 400 4 [(0, .ref x0), (1, .int x1), (2, .int x2), (3, .int x3)] lv [] m (dc_sub_cons f0 (dc_sub_cons f1 (dc_sub_cons f2 (dc_sub_cons f3 (dc_sub_nil))))) ?_
    unfold d_X3_readyAt_l4
    rw [dc_lp_eq]
    show (fun t x => dc_lf u N ab_M_X3_readyAt (Φ (Option.bind t (dc_bk (d_X3_readyAt_l4s x0 x1 m)))) x) (d_X3_readyAt_l4b x0 x1 x2 x3 m) _
    dsimp only
    unfold d_X3_readyAt_l4b
    refine dg_s (pc' := 5) [.int x3] rfl (fun _ => rfl) rfl ?_
    refine dg_s (pc' := 6) [.ref x0, .int x3] rfl (fun _ => rfl) rfl ?_
    refine dg_s (pc' := 9) [.int (m.1 x0 1), .int x3] rfl (fun _ => rfl) rfl ?_
    refine dw_if (fun t => Φ (Option.bind t (dc_bk (d_X3_readyAt_l4s x0 x1 m)))) ((Int32.toInt (m.1 x0 1)) ≤ (Int32.toInt x3)) [] 33 12 rfl (fun _ => rfl) (fun c0 => ?_) (fun c0 => ?_)
    · refine dw_g rfl ?_
      refine dg_s (pc' := 34) [.int x2] rfl (fun _ => rfl) rfl ?_
      exact dw_r (some (.inl (some (.int x2), m))) rfl (fun _ => rfl) (kR _)
    · refine dw_g rfl ?_
      refine dg_s (pc' := 13) [.ref x0] rfl (fun _ => rfl) rfl ?_
      refine dg_s (pc' := 14) [.int x1, .ref x0] rfl (fun _ => rfl) rfl ?_
      refine dg_s (pc' := 15) [.int x3, .int x1, .ref x0] rfl (fun _ => rfl) rfl ?_
      refine dg_s (pc' := 18) [.int (d_X3_isReady x0 x1 x3 m)] rfl (fun _ => rfl) rfl ?_
      refine dw_if (fun t => Φ (Option.bind t (dc_bk (d_X3_readyAt_l4s x0 x1 m)))) ((Int32.toInt (d_X3_isReady x0 x1 x3 m)) = 0) [] 27 21 rfl (fun _ => rfl) (fun c1 => ?_) (fun c1 => ?_)
      · refine dw_g rfl ?_
        refine dg_L (pc' := 30) [(3, .int (x3 + (1 : Int32))), (0, .ref x0), (1, .int x1), (2, .int x2)] [] rfl (fun _ => rfl) rfl ?_
        refine dw_s (pc' := 4) [] rfl (fun _ => rfl) ?_
        exact dw_j rfl (fun lv1 hv => ih x2 (x3 + (1 : Int32)) lv1 (hv.1 _ rfl) (hv.2.1 _ rfl) (hv.2.2.1 _ rfl) (hv.2.2.2.1 _ rfl))
      · refine dw_g rfl ?_
        refine dg_s (pc' := 22) [.int x2] rfl (fun _ => rfl) rfl ?_
        refine dg_s (pc' := 23) [.int (1 : Int32), .int x2] rfl (fun _ => rfl) rfl ?_
        refine dg_s (pc' := 24) [.int x3, .int (1 : Int32), .int x2] rfl (fun _ => rfl) rfl ?_
        refine dg_s (pc' := 25) [.int ((1 : Int32) <<< (x3 &&& 31)), .int x2] rfl (fun _ => rfl) rfl ?_
        refine dg_s (pc' := 26) [.int (x2 ||| ((1 : Int32) <<< (x3 &&& 31)))] rfl (fun _ => rfl) rfl ?_
        refine dg_L (pc' := 27) [(2, .int (x2 ||| ((1 : Int32) <<< (x3 &&& 31)))), (0, .ref x0), (1, .int x1), (3, .int x3)] [] rfl (fun _ => rfl) rfl ?_
        refine dg_L (pc' := 30) [(3, .int (x3 + (1 : Int32))), (2, .int (x2 ||| ((1 : Int32) <<< (x3 &&& 31)))), (0, .ref x0), (1, .int x1)] [] rfl (fun _ => rfl) rfl ?_
        refine dw_s (pc' := 4) [] rfl (fun _ => rfl) ?_
        exact dw_j rfl (fun lv1 hv => ih (x2 ||| ((1 : Int32) <<< (x3 &&& 31))) (x3 + (1 : Int32)) lv1 (hv.1 _ rfl) (hv.2.1 _ rfl) (hv.2.2.1 _ rfl) (hv.2.2.2.1 _ rfl))
noncomputable def d_X3_readyAt (x0 : Nat) (x1 : Int32) (m : dc_M) : Option Int32 :=
  (d_X3_readyAt_l4 x0 x1 (0 : Int32) (0 : Int32) m)
set_option maxHeartbeats 8000000 in
theorem k_X3_readyAt {u : Nat} {N : Nat} {Φ : (Option Int32) → Option Value → dc_M → Prop} (x0 : Nat) (x1 : Int32) (m : dc_M) (kR : ∀ (v : Int32), Φ (some (v)) (some (.int v)) m)  {lv : ab_L} (f0 : ab_lk lv 0 = some (.ref x0)) (f1 : ab_lk lv 1 = some (.int x1)) : dc_pv u N ab_M_X3_readyAt 0 lv [] m (Φ (d_X3_readyAt x0 x1 m)) := by
  refine dc_pv.mono (dc_ok (C := C_X3_readyAt) (S := S_X3_readyAt) CO_X3_readyAt 400 0 [(0, .ref x0), (1, .int x1)] lv [] m (dc_sub_cons f0 (dc_sub_cons f1 (dc_sub_nil))) ?_) (Nat.le_succ N)
  unfold d_X3_readyAt
  refine dg_s (pc' := 1) [.int (0 : Int32)] rfl (fun _ => rfl) rfl ?_
  refine dg_L (pc' := 2) [(2, .int (0 : Int32)), (0, .ref x0), (1, .int x1)] [] rfl (fun _ => rfl) rfl ?_
  refine dg_s (pc' := 3) [.int (0 : Int32)] rfl (fun _ => rfl) rfl ?_
  refine dw_L (pc' := 4) [(3, .int (0 : Int32)), (2, .int (0 : Int32)), (0, .ref x0), (1, .int x1)] [] rfl (fun _ => rfl) ?_
  exact dw_j rfl (fun lv1 hv => k_X3_readyAt_l4 (Φ := (fun t => Φ t)) x0 x1 m (fun _a  => kR _a) N  (0 : Int32) (0 : Int32) lv1 (hv.1 _ rfl) (hv.2.1 _ rfl) (hv.2.2.1 _ rfl) (hv.2.2.2.1 _ rfl))
noncomputable def H_X3_readyAt : dc_H := fun As m k => match As with
  | [.ref x0, .int x1] => (d_X3_readyAt x0 x1 m).bind (fun q => k (some (.int q)) m)
  | _ => dc_kz
theorem H_X3_readyAt_ok {u : Nat} : dc_cok u 40 H_X3_readyAt := fun M' hG N As m k P hz hP => by
  obtain rfl : ab_M_X3_readyAt = M' := Option.some.inj hG
  unfold H_X3_readyAt at hP
  split at hP
  · rename_i x0 x1
    exact dc_pv.imp (k_X3_readyAt (Φ := fun (t : Option Int32) r m' => P (t.bind (fun q => k (some (.int q)) m)) → P (k r m')) x0 x1 m (fun _  h => h) rfl rfl) (fun r m' h => h hP)
  · exact absurd hP hz
noncomputable def C_X9_run : List (Nat × dc_H) := [(19, H_X2_latest), (18, H_X2_markingOf), (40, H_X3_readyAt)]
theorem CO_X9_run {u : Nat} : dc_CO u C_X9_run := dc_CO_cons H_X2_latest_ok (dc_CO_cons H_X2_markingOf_ok (dc_CO_cons H_X3_readyAt_ok (dc_CO_nil)))
def S_X9_run : List (Nat × List Nat) := []
noncomputable def d_X9_run (x0 : Nat) (x1 : Int32) (m : dc_M) : Option Int32 :=
  (if (Int32.toInt x1) = 0 then some ((d_X2_markingOf (x0 + 36) (m.2.2.1 x0 7) m)) else (if (Int32.toInt x1) = 1 then ((d_X3_readyAt (m.2.2.1 x0 7) (d_X2_markingOf (x0 + 36) (m.2.2.1 x0 7) m) m).bind (fun q1 => some (q1))) else (if (Int32.toInt x1) = 2 then some ((m.1 (x0 + 36) 0)) else (if (Int32.toInt x1) = 3 then some ((d_X2_latest (x0 + 36) m)) else some ((-1 : Int32))))))
set_option maxHeartbeats 8000000 in
theorem k_X9_run {u : Nat} {N : Nat} {Φ : (Option Int32) → Option Value → dc_M → Prop} (x0 : Nat) (x1 : Int32) (m : dc_M) (kR : ∀ (v : Int32), Φ (some (v)) (some (.int v)) m)  {lv : ab_L} (f0 : ab_lk lv 0 = some (.ref x0)) (f1 : ab_lk lv 1 = some (.int x1)) : dc_pv u N ab_M_X9_run 0 lv [] m (Φ (d_X9_run x0 x1 m)) := by
  refine dc_pv.mono (dc_ok (C := C_X9_run) (S := S_X9_run) CO_X9_run 400 0 [(0, .ref x0), (1, .int x1)] lv [] m (dc_sub_cons f0 (dc_sub_cons f1 (dc_sub_nil))) ?_) (Nat.le_succ N)
  unfold d_X9_run
  refine dg_s (pc' := 1) [.int x1] rfl (fun _ => rfl) rfl ?_
  refine dw_sw (fun t => Φ t) ((Int32.toInt x1)) 79 [(0, 32), (1, 44), (2, 63), (3, 71)] [] rfl (fun _ => rfl) ?_
  refine dw_ts (fun t => Φ t) (fun c0 => ?_) (fun c0 => ?_)
  · refine dw_g rfl ?_
    refine dg_s (pc' := 33) [.ref x0] rfl (fun _ => rfl) rfl ?_
    refine dg_s (pc' := 36) [.ref (x0 + 36)] rfl (fun _ => rfl) rfl ?_
    refine dg_s (pc' := 37) [.ref x0, .ref (x0 + 36)] rfl (fun _ => rfl) rfl ?_
    refine dg_s (pc' := 40) [.ref (m.2.2.1 x0 7), .ref (x0 + 36)] rfl (fun _ => rfl) rfl ?_
    refine dg_s (pc' := 43) [.int (d_X2_markingOf (x0 + 36) (m.2.2.1 x0 7) m)] rfl (fun _ => rfl) rfl ?_
    exact dw_r (some (.inl (some (.int (d_X2_markingOf (x0 + 36) (m.2.2.1 x0 7) m)), m))) rfl (fun _ => rfl) (kR _)
  refine dw_ts (fun t => Φ t) (fun c1 => ?_) (fun c1 => ?_)
  · refine dw_g rfl ?_
    refine dg_s (pc' := 45) [.ref x0] rfl (fun _ => rfl) rfl ?_
    refine dg_s (pc' := 48) [.ref (m.2.2.1 x0 7)] rfl (fun _ => rfl) rfl ?_
    refine dg_s (pc' := 49) [.ref x0, .ref (m.2.2.1 x0 7)] rfl (fun _ => rfl) rfl ?_
    refine dg_s (pc' := 52) [.ref (x0 + 36), .ref (m.2.2.1 x0 7)] rfl (fun _ => rfl) rfl ?_
    refine dg_s (pc' := 53) [.ref x0, .ref (x0 + 36), .ref (m.2.2.1 x0 7)] rfl (fun _ => rfl) rfl ?_
    refine dg_s (pc' := 56) [.ref (m.2.2.1 x0 7), .ref (x0 + 36), .ref (m.2.2.1 x0 7)] rfl (fun _ => rfl) rfl ?_
    refine dg_s (pc' := 59) [.int (d_X2_markingOf (x0 + 36) (m.2.2.1 x0 7) m), .ref (m.2.2.1 x0 7)] rfl (fun _ => rfl) rfl ?_
    refine dw_b (fun t => Φ t) (pc' := 62) (fun q1 => [.int q1]) (fun q1 => m) rfl (fun _ => rfl) (fun q1 => ?_)
    refine dw_g rfl ?_
    exact dw_r (some (.inl (some (.int q1), m))) rfl (fun _ => rfl) (kR _)
  refine dw_ts (fun t => Φ t) (fun c2 => ?_) (fun c2 => ?_)
  · refine dw_g rfl ?_
    refine dg_s (pc' := 64) [.ref x0] rfl (fun _ => rfl) rfl ?_
    refine dg_s (pc' := 67) [.ref (x0 + 36)] rfl (fun _ => rfl) rfl ?_
    refine dg_s (pc' := 70) [.int (m.1 (x0 + 36) 0)] rfl (fun _ => rfl) rfl ?_
    exact dw_r (some (.inl (some (.int (m.1 (x0 + 36) 0)), m))) rfl (fun _ => rfl) (kR _)
  refine dw_ts (fun t => Φ t) (fun c3 => ?_) (fun c3 => ?_)
  · refine dw_g rfl ?_
    refine dg_s (pc' := 72) [.ref x0] rfl (fun _ => rfl) rfl ?_
    refine dg_s (pc' := 75) [.ref (x0 + 36)] rfl (fun _ => rfl) rfl ?_
    refine dg_s (pc' := 78) [.int (d_X2_latest (x0 + 36) m)] rfl (fun _ => rfl) rfl ?_
    exact dw_r (some (.inl (some (.int (d_X2_latest (x0 + 36) m)), m))) rfl (fun _ => rfl) (kR _)
  refine dw_t0 ?_
  refine dw_g rfl ?_
  refine dg_s (pc' := 80) [.int (-1 : Int32)] rfl (fun _ => rfl) rfl ?_
  exact dw_r (some (.inl (some (.int (-1 : Int32)), m))) rfl (fun _ => rfl) (kR _)
noncomputable def H_X9_run : dc_H := fun As m k => match As with
  | [.ref x0, .int x1] => (d_X9_run x0 x1 m).bind (fun q => k (some (.int q)) m)
  | _ => dc_kz
theorem H_X9_run_ok {u : Nat} : dc_cok u 126 H_X9_run := fun M' hG N As m k P hz hP => by
  obtain rfl : ab_M_X9_run = M' := Option.some.inj hG
  unfold H_X9_run at hP
  split at hP
  · rename_i x0 x1
    exact dc_pv.imp (k_X9_run (Φ := fun (t : Option Int32) r m' => P (t.bind (fun q => k (some (.int q)) m)) → P (k r m')) x0 x1 m (fun _  h => h) rfl rfl) (fun r m' h => h hP)
  · exact absurd hP hz
def C_X10_run : List (Nat × dc_H) := [(169, H_X10_isReady)]
theorem CO_X10_run {u : Nat} : dc_CO u C_X10_run := dc_CO_cons H_X10_isReady_ok (dc_CO_nil)
def S_X10_run : List (Nat × List Nat) := [(4, [0, 1, 2, 3]), (45, [0, 1, 2])]
noncomputable def d_X10_run_b45 (x0 : Nat) (x1 : Int32) (x2 : Int32) (m : dc_M) : Option Int32 :=
  (if ¬ (Int32.toInt x1) = 0 then (if ¬ (Int32.toInt x1) = 1 then (if ¬ (Int32.toInt x1) = 2 then (if ¬ (Int32.toInt x1) = 3 then some ((-1 : Int32)) else (if ¬ (Int32.toInt (m.1 x0 64)) = 0 then some ((m.1 (x0 + 34) (Int32.toNatClampNeg ((m.1 x0 64) - (1 : Int32))))) else some ((-4 : Int32)))) else some ((m.1 x0 64))) else some (x2)) else some ((m.1 (x0 + 33) (Int32.toNatClampNeg (m.1 x0 64)))))
set_option maxHeartbeats 8000000 in
theorem k_X10_run_b45 {u : Nat} {N : Nat} {Φ : (Option Int32) → Option Value → dc_M → Prop} (x0 : Nat) (x1 : Int32) (x2 : Int32) (m : dc_M) (kR : ∀ (v : Int32), Φ (some (v)) (some (.int v)) m)  {lv : ab_L} (f0 : ab_lk lv 0 = some (.ref x0)) (f1 : ab_lk lv 1 = some (.int x1)) (f2 : ab_lk lv 2 = some (.int x2)) : dc_pv u N ab_M_X10_run 45 lv [] m (Φ (d_X10_run_b45 x0 x1 x2 m)) := by
  refine dc_pv.mono (dc_ok (C := C_X10_run) (S := S_X10_run) CO_X10_run 400 45 [(0, .ref x0), (1, .int x1), (2, .int x2)] lv [] m (dc_sub_cons f0 (dc_sub_cons f1 (dc_sub_cons f2 (dc_sub_nil)))) ?_) (Nat.le_succ N)
  unfold d_X10_run_b45
  refine dg_s (pc' := 46) [.int x1] rfl (fun _ => rfl) rfl ?_
  refine dw_if (fun t => Φ t) (¬ (Int32.toInt x1) = 0) [] 61 49 rfl (fun _ => rfl) (fun c0 => ?_) (fun c0 => ?_)
  · refine dw_g rfl ?_
    refine dg_s (pc' := 62) [.int x1] rfl (fun _ => rfl) rfl ?_
    refine dg_s (pc' := 63) [.int (1 : Int32), .int x1] rfl (fun _ => rfl) rfl ?_
    refine dw_if (fun t => Φ t) (¬ (Int32.toInt x1) = 1) [] 70 66 rfl (fun _ => rfl) (fun c1 => ?_) (fun c1 => ?_)
    · refine dw_g rfl ?_
      refine dg_s (pc' := 71) [.int x1] rfl (fun _ => rfl) rfl ?_
      refine dg_s (pc' := 72) [.int (2 : Int32), .int x1] rfl (fun _ => rfl) rfl ?_
      refine dw_if (fun t => Φ t) (¬ (Int32.toInt x1) = 2) [] 82 75 rfl (fun _ => rfl) (fun c2 => ?_) (fun c2 => ?_)
      · refine dw_g rfl ?_
        refine dg_s (pc' := 83) [.int x1] rfl (fun _ => rfl) rfl ?_
        refine dg_s (pc' := 84) [.int (3 : Int32), .int x1] rfl (fun _ => rfl) rfl ?_
        refine dw_if (fun t => Φ t) (¬ (Int32.toInt x1) = 3) [] 113 87 rfl (fun _ => rfl) (fun c3 => ?_) (fun c3 => ?_)
        · refine dw_g rfl ?_
          refine dg_s (pc' := 114) [.int (-1 : Int32)] rfl (fun _ => rfl) rfl ?_
          exact dw_r (some (.inl (some (.int (-1 : Int32)), m))) rfl (fun _ => rfl) (kR _)
        · refine dw_g rfl ?_
          refine dg_s (pc' := 88) [.ref x0] rfl (fun _ => rfl) rfl ?_
          refine dg_s (pc' := 91) [.int (m.1 x0 64)] rfl (fun _ => rfl) rfl ?_
          refine dw_if (fun t => Φ t) (¬ (Int32.toInt (m.1 x0 64)) = 0) [] 99 94 rfl (fun _ => rfl) (fun c4 => ?_) (fun c4 => ?_)
          · refine dw_g rfl ?_
            refine dg_s (pc' := 100) [.ref x0] rfl (fun _ => rfl) rfl ?_
            refine dg_s (pc' := 103) [.ref (x0 + 34)] rfl (fun _ => rfl) rfl ?_
            refine dg_s (pc' := 104) [.ref x0, .ref (x0 + 34)] rfl (fun _ => rfl) rfl ?_
            refine dg_s (pc' := 107) [.int (m.1 x0 64), .ref (x0 + 34)] rfl (fun _ => rfl) rfl ?_
            refine dg_s (pc' := 108) [.int (1 : Int32), .int (m.1 x0 64), .ref (x0 + 34)] rfl (fun _ => rfl) rfl ?_
            refine dg_s (pc' := 109) [.int ((m.1 x0 64) - (1 : Int32)), .ref (x0 + 34)] rfl (fun _ => rfl) rfl ?_
            refine dg_s (pc' := 110) [.int (m.1 (x0 + 34) (Int32.toNatClampNeg ((m.1 x0 64) - (1 : Int32))))] rfl (fun _ => rfl) rfl ?_
            refine dg_s (pc' := 114) [.int (m.1 (x0 + 34) (Int32.toNatClampNeg ((m.1 x0 64) - (1 : Int32))))] rfl (fun _ => rfl) rfl ?_
            exact dw_r (some (.inl (some (.int (m.1 (x0 + 34) (Int32.toNatClampNeg ((m.1 x0 64) - (1 : Int32))))), m))) rfl (fun _ => rfl) (kR _)
          · refine dw_g rfl ?_
            refine dg_s (pc' := 96) [.int (-4 : Int32)] rfl (fun _ => rfl) rfl ?_
            refine dg_s (pc' := 114) [.int (-4 : Int32)] rfl (fun _ => rfl) rfl ?_
            exact dw_r (some (.inl (some (.int (-4 : Int32)), m))) rfl (fun _ => rfl) (kR _)
      · refine dw_g rfl ?_
        refine dg_s (pc' := 76) [.ref x0] rfl (fun _ => rfl) rfl ?_
        refine dg_s (pc' := 79) [.int (m.1 x0 64)] rfl (fun _ => rfl) rfl ?_
        refine dg_s (pc' := 114) [.int (m.1 x0 64)] rfl (fun _ => rfl) rfl ?_
        exact dw_r (some (.inl (some (.int (m.1 x0 64)), m))) rfl (fun _ => rfl) (kR _)
    · refine dw_g rfl ?_
      refine dg_s (pc' := 67) [.int x2] rfl (fun _ => rfl) rfl ?_
      refine dg_s (pc' := 114) [.int x2] rfl (fun _ => rfl) rfl ?_
      exact dw_r (some (.inl (some (.int x2), m))) rfl (fun _ => rfl) (kR _)
  · refine dw_g rfl ?_
    refine dg_s (pc' := 50) [.ref x0] rfl (fun _ => rfl) rfl ?_
    refine dg_s (pc' := 53) [.ref (x0 + 33)] rfl (fun _ => rfl) rfl ?_
    refine dg_s (pc' := 54) [.ref x0, .ref (x0 + 33)] rfl (fun _ => rfl) rfl ?_
    refine dg_s (pc' := 57) [.int (m.1 x0 64), .ref (x0 + 33)] rfl (fun _ => rfl) rfl ?_
    refine dg_s (pc' := 58) [.int (m.1 (x0 + 33) (Int32.toNatClampNeg (m.1 x0 64)))] rfl (fun _ => rfl) rfl ?_
    refine dg_s (pc' := 114) [.int (m.1 (x0 + 33) (Int32.toNatClampNeg (m.1 x0 64)))] rfl (fun _ => rfl) rfl ?_
    exact dw_r (some (.inl (some (.int (m.1 (x0 + 33) (Int32.toNatClampNeg (m.1 x0 64)))), m))) rfl (fun _ => rfl) (kR _)
noncomputable def d_X10_run_l4b (x0 : Nat) (x1 : Int32) (x2 : Int32) (x3 : Int32) (m : dc_M) : Option ((Int32 × Int32) ⊕ Int32) :=
  (if (Int32.toInt (m.1 x0 3)) ≤ (Int32.toInt x3) then ((d_X10_run_b45 x0 x1 x2 m).map (fun z => Sum.inr (z))) else (if (Int32.toInt (d_X10_isReady x0 x3 (m.1 (x0 + 33) (Int32.toNatClampNeg (m.1 x0 64))) m)) = 0 then some (Sum.inl ((x2 ||| (0 : Int32)), (x3 + (1 : Int32)))) else some (Sum.inl ((x2 ||| ((1 : Int32) <<< (x3 &&& 31))), (x3 + (1 : Int32))))))
noncomputable def d_X10_run_l4s (x0 : Nat) (x1 : Int32) (m : dc_M) : (Int32 × Int32) → Option ((Int32 × Int32) ⊕ Int32) := fun s => d_X10_run_l4b x0 x1 s.1 s.2 m
noncomputable def d_X10_run_l4 (x0 : Nat) (x1 : Int32) (x2 : Int32) (x3 : Int32) (m : dc_M) : Option Int32 := dc_lp (d_X10_run_l4s x0 x1 m) (x2, x3)
set_option maxHeartbeats 8000000 in
theorem k_X10_run_l4 {u : Nat} {Φ : (Option Int32) → Option Value → dc_M → Prop} (x0 : Nat) (x1 : Int32) (m : dc_M) (kR : ∀ (v : Int32), Φ (some (v)) (some (.int v)) m) : ∀ (N : Nat), ∀ (x2 : Int32) (x3 : Int32) (lv : ab_L), ab_lk lv 0 = some (.ref x0) → ab_lk lv 1 = some (.int x1) → ab_lk lv 2 = some (.int x2) → ab_lk lv 3 = some (.int x3) → dc_pv u N ab_M_X10_run 4 lv [] m (Φ (d_X10_run_l4 x0 x1 x2 x3 m)) := by
  intro N
  induction N with
  | zero => intros; exact dc_pv_zero
  | succ N ih =>
    intro x2 x3 lv f0 f1 f2 f3
    refine dc_ok (C := C_X10_run) (S := S_X10_run) CO_X10_run 400 4 [(0, .ref x0), (1, .int x1), (2, .int x2), (3, .int x3)] lv [] m (dc_sub_cons f0 (dc_sub_cons f1 (dc_sub_cons f2 (dc_sub_cons f3 (dc_sub_nil))))) ?_
    unfold d_X10_run_l4
    rw [dc_lp_eq]
    show (fun t x => dc_lf u N ab_M_X10_run (Φ (Option.bind t (dc_bk (d_X10_run_l4s x0 x1 m)))) x) (d_X10_run_l4b x0 x1 x2 x3 m) _
    dsimp only
    unfold d_X10_run_l4b
    refine dg_s (pc' := 5) [.int x3] rfl (fun _ => rfl) rfl ?_
    refine dg_s (pc' := 6) [.ref x0, .int x3] rfl (fun _ => rfl) rfl ?_
    refine dg_s (pc' := 9) [.int (m.1 x0 3), .int x3] rfl (fun _ => rfl) rfl ?_
    refine dw_if (fun t => Φ (Option.bind t (dc_bk (d_X10_run_l4s x0 x1 m)))) ((Int32.toInt (m.1 x0 3)) ≤ (Int32.toInt x3)) [] 45 12 rfl (fun _ => rfl) (fun c0 => ?_) (fun c0 => ?_)
    · exact dw_j rfl (fun lv1 hv => k_X10_run_b45 (Φ := (fun t => Φ (Option.bind (t.map (fun z => Sum.inr (z))) (dc_bk (d_X10_run_l4s x0 x1 m))))) x0 x1 x2 m (fun _a  => kR _a)  (hv.1 _ rfl) (hv.2.1 _ rfl) (hv.2.2.1 _ rfl))
    · refine dw_g rfl ?_
      refine dg_s (pc' := 13) [.int x2] rfl (fun _ => rfl) rfl ?_
      refine dg_s (pc' := 14) [.ref x0, .int x2] rfl (fun _ => rfl) rfl ?_
      refine dg_s (pc' := 15) [.int x3, .ref x0, .int x2] rfl (fun _ => rfl) rfl ?_
      refine dg_s (pc' := 16) [.ref x0, .int x3, .ref x0, .int x2] rfl (fun _ => rfl) rfl ?_
      refine dg_s (pc' := 19) [.ref (x0 + 33), .int x3, .ref x0, .int x2] rfl (fun _ => rfl) rfl ?_
      refine dg_s (pc' := 20) [.ref x0, .ref (x0 + 33), .int x3, .ref x0, .int x2] rfl (fun _ => rfl) rfl ?_
      refine dg_s (pc' := 23) [.int (m.1 x0 64), .ref (x0 + 33), .int x3, .ref x0, .int x2] rfl (fun _ => rfl) rfl ?_
      refine dg_s (pc' := 24) [.int (m.1 (x0 + 33) (Int32.toNatClampNeg (m.1 x0 64))), .int x3, .ref x0, .int x2] rfl (fun _ => rfl) rfl ?_
      refine dg_s (pc' := 27) [.int (d_X10_isReady x0 x3 (m.1 (x0 + 33) (Int32.toNatClampNeg (m.1 x0 64))) m), .int x2] rfl (fun _ => rfl) rfl ?_
      refine dw_if (fun t => Φ (Option.bind t (dc_bk (d_X10_run_l4s x0 x1 m)))) ((Int32.toInt (d_X10_isReady x0 x3 (m.1 (x0 + 33) (Int32.toNatClampNeg (m.1 x0 64))) m)) = 0) [.int x2] 36 30 rfl (fun _ => rfl) (fun c1 => ?_) (fun c1 => ?_)
      · refine dw_g rfl ?_
        refine dg_s (pc' := 37) [.int (0 : Int32), .int x2] rfl (fun _ => rfl) rfl ?_
        refine dg_s (pc' := 38) [.int (x2 ||| (0 : Int32))] rfl (fun _ => rfl) rfl ?_
        refine dg_L (pc' := 39) [(2, .int (x2 ||| (0 : Int32))), (0, .ref x0), (1, .int x1), (3, .int x3)] [] rfl (fun _ => rfl) rfl ?_
        refine dg_L (pc' := 42) [(3, .int (x3 + (1 : Int32))), (2, .int (x2 ||| (0 : Int32))), (0, .ref x0), (1, .int x1)] [] rfl (fun _ => rfl) rfl ?_
        refine dw_s (pc' := 4) [] rfl (fun _ => rfl) ?_
        exact dw_j rfl (fun lv1 hv => ih (x2 ||| (0 : Int32)) (x3 + (1 : Int32)) lv1 (hv.1 _ rfl) (hv.2.1 _ rfl) (hv.2.2.1 _ rfl) (hv.2.2.2.1 _ rfl))
      · refine dw_g rfl ?_
        refine dg_s (pc' := 31) [.int (1 : Int32), .int x2] rfl (fun _ => rfl) rfl ?_
        refine dg_s (pc' := 32) [.int x3, .int (1 : Int32), .int x2] rfl (fun _ => rfl) rfl ?_
        refine dg_s (pc' := 33) [.int ((1 : Int32) <<< (x3 &&& 31)), .int x2] rfl (fun _ => rfl) rfl ?_
        refine dg_s (pc' := 37) [.int ((1 : Int32) <<< (x3 &&& 31)), .int x2] rfl (fun _ => rfl) rfl ?_
        refine dg_s (pc' := 38) [.int (x2 ||| ((1 : Int32) <<< (x3 &&& 31)))] rfl (fun _ => rfl) rfl ?_
        refine dg_L (pc' := 39) [(2, .int (x2 ||| ((1 : Int32) <<< (x3 &&& 31)))), (0, .ref x0), (1, .int x1), (3, .int x3)] [] rfl (fun _ => rfl) rfl ?_
        refine dg_L (pc' := 42) [(3, .int (x3 + (1 : Int32))), (2, .int (x2 ||| ((1 : Int32) <<< (x3 &&& 31)))), (0, .ref x0), (1, .int x1)] [] rfl (fun _ => rfl) rfl ?_
        refine dw_s (pc' := 4) [] rfl (fun _ => rfl) ?_
        exact dw_j rfl (fun lv1 hv => ih (x2 ||| ((1 : Int32) <<< (x3 &&& 31))) (x3 + (1 : Int32)) lv1 (hv.1 _ rfl) (hv.2.1 _ rfl) (hv.2.2.1 _ rfl) (hv.2.2.2.1 _ rfl))
noncomputable def d_X10_run (x0 : Nat) (x1 : Int32) (m : dc_M) : Option Int32 :=
  (d_X10_run_l4 x0 x1 (0 : Int32) (0 : Int32) m)
set_option maxHeartbeats 8000000 in
theorem k_X10_run {u : Nat} {N : Nat} {Φ : (Option Int32) → Option Value → dc_M → Prop} (x0 : Nat) (x1 : Int32) (m : dc_M) (kR : ∀ (v : Int32), Φ (some (v)) (some (.int v)) m)  {lv : ab_L} (f0 : ab_lk lv 0 = some (.ref x0)) (f1 : ab_lk lv 1 = some (.int x1)) : dc_pv u N ab_M_X10_run 0 lv [] m (Φ (d_X10_run x0 x1 m)) := by
  refine dc_pv.mono (dc_ok (C := C_X10_run) (S := S_X10_run) CO_X10_run 400 0 [(0, .ref x0), (1, .int x1)] lv [] m (dc_sub_cons f0 (dc_sub_cons f1 (dc_sub_nil))) ?_) (Nat.le_succ N)
  unfold d_X10_run
  refine dg_s (pc' := 1) [.int (0 : Int32)] rfl (fun _ => rfl) rfl ?_
  refine dg_L (pc' := 2) [(2, .int (0 : Int32)), (0, .ref x0), (1, .int x1)] [] rfl (fun _ => rfl) rfl ?_
  refine dg_s (pc' := 3) [.int (0 : Int32)] rfl (fun _ => rfl) rfl ?_
  refine dw_L (pc' := 4) [(3, .int (0 : Int32)), (2, .int (0 : Int32)), (0, .ref x0), (1, .int x1)] [] rfl (fun _ => rfl) ?_
  exact dw_j rfl (fun lv1 hv => k_X10_run_l4 (Φ := (fun t => Φ t)) x0 x1 m (fun _a  => kR _a) N  (0 : Int32) (0 : Int32) lv1 (hv.1 _ rfl) (hv.2.1 _ rfl) (hv.2.2.1 _ rfl) (hv.2.2.2.1 _ rfl))
noncomputable def H_X10_run : dc_H := fun As m k => match As with
  | [.ref x0, .int x1] => (d_X10_run x0 x1 m).bind (fun q => k (some (.int q)) m)
  | _ => dc_kz
theorem H_X10_run_ok {u : Nat} : dc_cok u 224 H_X10_run := fun M' hG N As m k P hz hP => by
  obtain rfl : ab_M_X10_run = M' := Option.some.inj hG
  unfold H_X10_run at hP
  split at hP
  · rename_i x0 x1
    exact dc_pv.imp (k_X10_run (Φ := fun (t : Option Int32) r m' => P (t.bind (fun q => k (some (.int q)) m)) → P (k r m')) x0 x1 m (fun _  h => h) rfl rfl) (fun r m' h => h hP)
  · exact absurd hP hz
