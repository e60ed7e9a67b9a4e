/-! ===== methods as functions (written by a program) ===== -/
def C_X10_in : List (Nat × dc_H) := []
theorem CO_X10_in {u : Nat} : dc_CO u C_X10_in := dc_CO_nil
def S_X10_in : List (Nat × List Nat) := []
def d_X10_in (x0 : Int64) (x2 : Int64) (x4 : Int64) (m : dc_M) : Int32 :=
  (if (Int32.toInt (lg_cmp x0 x2)) < 0 then (0 : Int32) else (if 0 < (Int32.toInt (lg_cmp x0 x4)) then (0 : Int32) else (1 : Int32)))
set_option maxHeartbeats 8000000 in
theorem k_X10_in {u : Nat} {N : Nat} {Φ : Int32 → Option Value → dc_M → Prop} (x0 : Int64) (x2 : Int64) (x4 : Int64) (m : dc_M) (kR : ∀ (v : Int32), Φ (v) (some (.int v)) m)  {lv : ab_L} (f0 : ab_lk lv 0 = some (.long x0)) (f2 : ab_lk lv 2 = some (.long x2)) (f4 : ab_lk lv 4 = some (.long x4)) : dc_pv u N ab_M_X10_in 0 lv [] m (Φ (d_X10_in x0 x2 x4 m)) := by
  refine dc_pv.mono (dc_ok (C := C_X10_in) (S := S_X10_in) CO_X10_in 400 0 [(0, .long x0), (2, .long x2), (4, .long x4)] lv [] m (dc_sub_cons f0 (dc_sub_cons f2 (dc_sub_cons f4 (dc_sub_nil)))) ?_) (Nat.le_succ N)
  unfold d_X10_in
  refine dg_s (pc' := 1) [.long x0] rfl (fun _ => rfl) rfl ?_
  refine dg_s (pc' := 2) [.long x2, .long x0] rfl (fun _ => rfl) rfl ?_
  refine dg_s (pc' := 3) [.int (lg_cmp x0 x2)] rfl (fun _ => rfl) rfl ?_
  refine dw_if (fun t => Φ t) ((Int32.toInt (lg_cmp x0 x2)) < 0) [] 17 6 rfl (fun _ => rfl) (fun c0 => ?_) (fun c0 => ?_)
  · refine dw_g rfl ?_
    refine dg_s (pc' := 18) [.int (0 : Int32)] rfl (fun _ => rfl) rfl ?_
    exact dw_r (some (.inl (some (.int (0 : Int32)), m))) rfl (fun _ => rfl) (kR _)
  · refine dw_g rfl ?_
    refine dg_s (pc' := 7) [.long x0] rfl (fun _ => rfl) rfl ?_
    refine dg_s (pc' := 9) [.long x4, .long x0] rfl (fun _ => rfl) rfl ?_
    refine dg_s (pc' := 10) [.int (lg_cmp x0 x4)] rfl (fun _ => rfl) rfl ?_
    refine dw_if (fun t => Φ t) (0 < (Int32.toInt (lg_cmp x0 x4))) [] 17 13 rfl (fun _ => rfl) (fun c1 => ?_) (fun c1 => ?_)
    · refine dw_g rfl ?_
      refine dg_s (pc' := 18) [.int (0 : Int32)] rfl (fun _ => rfl) rfl ?_
      exact dw_r (some (.inl (some (.int (0 : Int32)), m))) rfl (fun _ => rfl) (kR _)
    · refine dw_g rfl ?_
      refine dg_s (pc' := 14) [.int (1 : Int32)] rfl (fun _ => rfl) rfl ?_
      refine dg_s (pc' := 18) [.int (1 : Int32)] rfl (fun _ => rfl) rfl ?_
      exact dw_r (some (.inl (some (.int (1 : Int32)), m))) rfl (fun _ => rfl) (kR _)
def H_X10_in : dc_H := fun As m k => match As with
  | [.long x0, .long x2, .long x4] => k (some (.int (d_X10_in x0 x2 x4 m))) m
  | _ => dc_kz
theorem H_X10_in_ok {u : Nat} : dc_cok u 146 H_X10_in := fun M' hG N As m k P hz hP => by
  obtain rfl : ab_M_X10_in = M' := Option.some.inj hG
  unfold H_X10_in at hP
  split at hP
  · rename_i x0 x2 x4
    exact dc_pv.imp (k_X10_in (Φ := fun (t : Int32) r m' => P (k (some (.int t)) m) → P (k r m')) x0 x2 x4 m (fun _  h => h) rfl rfl rfl) (fun r m' h => h hP)
  · exact absurd hP hz
def C_X10_end : List (Nat × dc_H) := [(146, H_X10_in)]
theorem CO_X10_end {u : Nat} : dc_CO u C_X10_end := dc_CO_cons H_X10_in_ok (dc_CO_nil)
def S_X10_end : List (Nat × List Nat) := []
def d_X10_end (x0 : Nat) (x1 : Int32) (m : dc_M) : (Int32 × dc_M) :=
  (if ¬ (Int32.toInt (d_X10_in (Int32.toInt64 x1) (0 : Int64) (Int32.toInt64 (m.1 x0 13)) m)) = 0 then ((m.1 x0 13), (dc_wi m x0 13 x1)) else ((-1 : Int32), m))
set_option maxHeartbeats 8000000 in
theorem k_X10_end {u : Nat} {N : Nat} {Φ : (Int32 × dc_M) → Option Value → dc_M → Prop} (x0 : Nat) (x1 : Int32) (m : dc_M) (kR : ∀ (v : Int32) (m : dc_M), Φ ((v, m)) (some (.int v)) m)  {lv : ab_L} (f0 : ab_lk lv 0 = some (.ref x0)) (f1 : ab_lk lv 1 = some (.int x1)) : dc_pv u N ab_M_X10_end 0 lv [] m (Φ (d_X10_end x0 x1 m)) := by
  refine dc_pv.mono (dc_ok (C := C_X10_end) (S := S_X10_end) CO_X10_end 400 0 [(0, .ref x0), (1, .int x1)] lv [] m (dc_sub_cons f0 (dc_sub_cons f1 (dc_sub_nil))) ?_) (Nat.le_succ N)
  unfold d_X10_end
  refine dg_s (pc' := 1) [.int x1] rfl (fun _ => rfl) rfl ?_
  refine dg_s (pc' := 2) [.long (Int32.toInt64 x1)] rfl (fun _ => rfl) rfl ?_
  refine dg_s (pc' := 3) [.long (0 : Int64), .long (Int32.toInt64 x1)] rfl (fun _ => rfl) rfl ?_
  refine dg_s (pc' := 4) [.ref x0, .long (0 : Int64), .long (Int32.toInt64 x1)] rfl (fun _ => rfl) rfl ?_
  refine dg_s (pc' := 7) [.int (m.1 x0 13), .long (0 : Int64), .long (Int32.toInt64 x1)] rfl (fun _ => rfl) rfl ?_
  refine dg_s (pc' := 8) [.long (Int32.toInt64 (m.1 x0 13)), .long (0 : Int64), .long (Int32.toInt64 x1)] rfl (fun _ => rfl) rfl ?_
  refine dg_s (pc' := 11) [.int (d_X10_in (Int32.toInt64 x1) (0 : Int64) (Int32.toInt64 (m.1 x0 13)) m)] rfl (fun _ => rfl) rfl ?_
  refine dw_if (fun t => Φ t) (¬ (Int32.toInt (d_X10_in (Int32.toInt64 x1) (0 : Int64) (Int32.toInt64 (m.1 x0 13)) m)) = 0) [] 16 14 rfl (fun _ => rfl) (fun c0 => ?_) (fun c0 => ?_)
  · refine dw_g rfl ?_
    refine dg_s (pc' := 17) [.ref x0] rfl (fun _ => rfl) rfl ?_
    refine dg_s (pc' := 20) [.int (m.1 x0 13)] rfl (fun _ => rfl) rfl ?_
    refine dg_L (pc' := 21) [(2, .int (m.1 x0 13)), (0, .ref x0), (1, .int x1)] [] rfl (fun _ => rfl) rfl ?_
    refine dg_s (pc' := 22) [.ref x0] rfl (fun _ => rfl) rfl ?_
    refine dg_s (pc' := 23) [.int x1, .ref x0] rfl (fun _ => rfl) rfl ?_
    refine dg_m (pc' := 26) (dc_wi m x0 13 x1) [] rfl (fun _ => rfl) rfl ?_
    refine dg_s (pc' := 27) [.int (m.1 x0 13)] rfl (fun _ => rfl) rfl ?_
    exact dw_r (some (.inl (some (.int (m.1 x0 13)), (dc_wi m x0 13 x1)))) rfl (fun _ => rfl) (kR _ _)
  · refine dw_g rfl ?_
    refine dg_s (pc' := 15) [.int (-1 : Int32)] rfl (fun _ => rfl) rfl ?_
    exact dw_r (some (.inl (some (.int (-1 : Int32)), m))) rfl (fun _ => rfl) (kR _ _)
def H_X10_end : dc_H := fun As m k => match As with
  | [.ref x0, .int x1] => dc_let (d_X10_end x0 x1 m) (fun q => k (some (.int q.1)) q.2)
  | _ => dc_kz
theorem H_X10_end_ok {u : Nat} : dc_cok u 148 H_X10_end := fun M' hG N As m k P hz hP => by
  obtain rfl : ab_M_X10_end = M' := Option.some.inj hG
  unfold H_X10_end at hP
  split at hP
  · rename_i x0 x1
    exact dc_pv.imp (k_X10_end (Φ := fun (t : (Int32 × dc_M)) r m' => P (dc_let t (fun q => k (some (.int q.1)) q.2)) → P (k r m')) x0 x1 m (fun _ _ h => h) rfl rfl) (fun r m' h => h hP)
  · exact absurd hP hz
def C_X10_begin : List (Nat × dc_H) := []
theorem CO_X10_begin {u : Nat} : dc_CO u C_X10_begin := dc_CO_nil
def S_X10_begin : List (Nat × List Nat) := []
def d_X10_begin (x0 : Nat) (m : dc_M) : dc_M :=
  (dc_wi (dc_wi m x0 64 (0 : Int32)) (x0 + 33) (Int32.toNatClampNeg (0 : Int32)) ((dc_wi m x0 64 (0 : Int32)).1 x0 11))
set_option maxHeartbeats 8000000 in
theorem k_X10_begin {u : Nat} {N : Nat} {Φ : dc_M → Option Value → dc_M → Prop} (x0 : Nat) (m : dc_M) (kR : ∀  (m : dc_M), Φ (m) (none) m)  {lv : ab_L} (f0 : ab_lk lv 0 = some (.ref x0)) : dc_pv u N ab_M_X10_begin 0 lv [] m (Φ (d_X10_begin x0 m)) := by
  refine dc_pv.mono (dc_ok (C := C_X10_begin) (S := S_X10_begin) CO_X10_begin 400 0 [(0, .ref x0)] lv [] m (dc_sub_cons f0 (dc_sub_nil)) ?_) (Nat.le_succ N)
  unfold d_X10_begin
  refine dg_s (pc' := 1) [.ref x0] rfl (fun _ => rfl) rfl ?_
  refine dg_s (pc' := 2) [.int (0 : Int32), .ref x0] rfl (fun _ => rfl) rfl ?_
  refine dg_m (pc' := 5) (dc_wi m x0 64 (0 : Int32)) [] rfl (fun _ => rfl) rfl ?_
  refine dg_s (pc' := 6) [.ref x0] rfl (fun _ => rfl) rfl ?_
  refine dg_s (pc' := 9) [.ref (x0 + 33)] rfl (fun _ => rfl) rfl ?_
  refine dg_s (pc' := 10) [.int (0 : Int32), .ref (x0 + 33)] rfl (fun _ => rfl) rfl ?_
  refine dg_s (pc' := 11) [.ref x0, .int (0 : Int32), .ref (x0 + 33)] rfl (fun _ => rfl) rfl ?_
  refine dg_s (pc' := 14) [.int ((dc_wi m x0 64 (0 : Int32)).1 x0 11), .int (0 : Int32), .ref (x0 + 33)] rfl (fun _ => rfl) rfl ?_
  refine dg_m (pc' := 15) (dc_wi (dc_wi m x0 64 (0 : Int32)) (x0 + 33) (Int32.toNatClampNeg (0 : Int32)) ((dc_wi m x0 64 (0 : Int32)).1 x0 11)) [] rfl (fun _ => rfl) rfl ?_
  exact dw_r (some (.inl (none, (dc_wi (dc_wi m x0 64 (0 : Int32)) (x0 + 33) (Int32.toNatClampNeg (0 : Int32)) ((dc_wi m x0 64 (0 : Int32)).1 x0 11))))) rfl (fun _ => rfl) (kR _)
def H_X10_begin : dc_H := fun As m k => match As with
  | [.ref x0] => dc_let (d_X10_begin x0 m) (fun q => k (none) q)
  | _ => dc_kz
theorem H_X10_begin_ok {u : Nat} : dc_cok u 221 H_X10_begin := fun M' hG N As m k P hz hP => by
  obtain rfl : ab_M_X10_begin = M' := Option.some.inj hG
  unfold H_X10_begin at hP
  split at hP
  · rename_i x0
    exact dc_pv.imp (k_X10_begin (Φ := fun (t : dc_M) r m' => P (dc_let t (fun q => k (none) q)) → P (k r m')) x0 m (fun _ h => h) rfl) (fun r m' h => h hP)
  · exact absurd hP hz
def C_X10_byteAt : List (Nat × dc_H) := []
theorem CO_X10_byteAt {u : Nat} : dc_CO u C_X10_byteAt := dc_CO_nil
def S_X10_byteAt : List (Nat × List Nat) := []
def d_X10_byteAt (x0 : Nat) (x1 : Int32) (m : dc_M) : Int32 :=
  (if (Int32.toInt (m.1 x0 13)) ≤ (Int32.toInt x1) then (-4 : Int32) else (m.1 (x0 + 9) (Int32.toNatClampNeg x1)))
set_option maxHeartbeats 8000000 in
theorem k_X10_byteAt {u : Nat} {N : Nat} {Φ : Int32 → Option Value → dc_M → Prop} (x0 : Nat) (x1 : Int32) (m : dc_M) (kR : ∀ (v : Int32), Φ (v) (some (.int v)) m)  {lv : ab_L} (f0 : ab_lk lv 0 = some (.ref x0)) (f1 : ab_lk lv 1 = some (.int x1)) : dc_pv u N ab_M_X10_byteAt 0 lv [] m (Φ (d_X10_byteAt x0 x1 m)) := by
  refine dc_pv.mono (dc_ok (C := C_X10_byteAt) (S := S_X10_byteAt) CO_X10_byteAt 400 0 [(0, .ref x0), (1, .int x1)] lv [] m (dc_sub_cons f0 (dc_sub_cons f1 (dc_sub_nil))) ?_) (Nat.le_succ N)
  unfold d_X10_byteAt
  refine dg_s (pc' := 1) [.int x1] rfl (fun _ => rfl) rfl ?_
  refine dg_s (pc' := 2) [.ref x0, .int x1] rfl (fun _ => rfl) rfl ?_
  refine dg_s (pc' := 5) [.int (m.1 x0 13), .int x1] rfl (fun _ => rfl) rfl ?_
  refine dw_if (fun t => Φ t) ((Int32.toInt (m.1 x0 13)) ≤ (Int32.toInt x1)) [] 17 8 rfl (fun _ => rfl) (fun c0 => ?_) (fun c0 => ?_)
  · refine dw_g rfl ?_
    refine dg_s (pc' := 19) [.int (-4 : Int32)] rfl (fun _ => rfl) rfl ?_
    exact dw_r (some (.inl (some (.int (-4 : Int32)), m))) rfl (fun _ => rfl) (kR _)
  · refine dw_g rfl ?_
    refine dg_s (pc' := 9) [.ref x0] rfl (fun _ => rfl) rfl ?_
    refine dg_s (pc' := 12) [.ref (x0 + 9)] rfl (fun _ => rfl) rfl ?_
    refine dg_s (pc' := 13) [.int x1, .ref (x0 + 9)] rfl (fun _ => rfl) rfl ?_
    refine dg_s (pc' := 14) [.int (m.1 (x0 + 9) (Int32.toNatClampNeg x1))] rfl (fun _ => rfl) rfl ?_
    refine dg_s (pc' := 19) [.int (m.1 (x0 + 9) (Int32.toNatClampNeg x1))] rfl (fun _ => rfl) rfl ?_
    exact dw_r (some (.inl (some (.int (m.1 (x0 + 9) (Int32.toNatClampNeg x1))), m))) rfl (fun _ => rfl) (kR _)
def H_X10_byteAt : dc_H := fun As m k => match As with
  | [.ref x0, .int x1] => k (some (.int (d_X10_byteAt x0 x1 m))) m
  | _ => dc_kz
theorem H_X10_byteAt_ok {u : Nat} : dc_cok u 149 H_X10_byteAt := fun M' hG N As m k P hz hP => by
  obtain rfl : ab_M_X10_byteAt = M' := Option.some.inj hG
  unfold H_X10_byteAt at hP
  split at hP
  · rename_i x0 x1
    exact dc_pv.imp (k_X10_byteAt (Φ := fun (t : Int32) r m' => P (k (some (.int t)) m) → P (k r m')) x0 x1 m (fun _  h => h) rfl rfl) (fun r m' h => h hP)
  · exact absurd hP hz
def C_X10_failsAt : List (Nat × dc_H) := []
theorem CO_X10_failsAt {u : Nat} : dc_CO u C_X10_failsAt := dc_CO_nil
def S_X10_failsAt : List (Nat × List Nat) := []
def d_X10_failsAt (x0 : Nat) (x1 : Int32) (x2 : Int32) (m : dc_M) : dc_M :=
  (if ¬ (Int32.toInt (m.1 x0 15)) = 0 then m else (dc_wi (dc_wi m x0 15 x1) x0 16 x2))
set_option maxHeartbeats 8000000 in
theorem k_X10_failsAt {u : Nat} {N : Nat} {Φ : dc_M → Option Value → dc_M → Prop} (x0 : Nat) (x1 : Int32) (x2 : Int32) (m : dc_M) (kR : ∀  (m : dc_M), Φ (m) (none) m)  {lv : ab_L} (f0 : ab_lk lv 0 = some (.ref x0)) (f1 : ab_lk lv 1 = some (.int x1)) (f2 : ab_lk lv 2 = some (.int x2)) : dc_pv u N ab_M_X10_failsAt 0 lv [] m (Φ (d_X10_failsAt x0 x1 x2 m)) := by
  refine dc_pv.mono (dc_ok (C := C_X10_failsAt) (S := S_X10_failsAt) CO_X10_failsAt 400 0 [(0, .ref x0), (1, .int x1), (2, .int x2)] lv [] m (dc_sub_cons f0 (dc_sub_cons f1 (dc_sub_cons f2 (dc_sub_nil)))) ?_) (Nat.le_succ N)
  unfold d_X10_failsAt
  refine dg_s (pc' := 1) [.ref x0] rfl (fun _ => rfl) rfl ?_
  refine dg_s (pc' := 4) [.int (m.1 x0 15)] rfl (fun _ => rfl) rfl ?_
  refine dw_if (fun t => Φ t) (¬ (Int32.toInt (m.1 x0 15)) = 0) [] 17 7 rfl (fun _ => rfl) (fun c0 => ?_) (fun c0 => ?_)
  · refine dw_g rfl ?_
    exact dw_r (some (.inl (none, m))) rfl (fun _ => rfl) (kR _)
  · refine dw_g rfl ?_
    refine dg_s (pc' := 8) [.ref x0] rfl (fun _ => rfl) rfl ?_
    refine dg_s (pc' := 9) [.int x1, .ref x0] rfl (fun _ => rfl) rfl ?_
    refine dg_m (pc' := 12) (dc_wi m x0 15 x1) [] rfl (fun _ => rfl) rfl ?_
    refine dg_s (pc' := 13) [.ref x0] rfl (fun _ => rfl) rfl ?_
    refine dg_s (pc' := 14) [.int x2, .ref x0] rfl (fun _ => rfl) rfl ?_
    refine dg_m (pc' := 17) (dc_wi (dc_wi m x0 15 x1) x0 16 x2) [] rfl (fun _ => rfl) rfl ?_
    exact dw_r (some (.inl (none, (dc_wi (dc_wi m x0 15 x1) x0 16 x2)))) rfl (fun _ => rfl) (kR _)
def H_X10_failsAt : dc_H := fun As m k => match As with
  | [.ref x0, .int x1, .int x2] => dc_let (d_X10_failsAt x0 x1 x2 m) (fun q => k (none) q)
  | _ => dc_kz
theorem H_X10_failsAt_ok {u : Nat} : dc_cok u 150 H_X10_failsAt := fun M' hG N As m k P hz hP => by
  obtain rfl : ab_M_X10_failsAt = M' := Option.some.inj hG
  unfold H_X10_failsAt at hP
  split at hP
  · rename_i x0 x1 x2
    exact dc_pv.imp (k_X10_failsAt (Φ := fun (t : dc_M) r m' => P (dc_let t (fun q => k (none) q)) → P (k r m')) x0 x1 x2 m (fun _ h => h) rfl rfl rfl) (fun r m' h => h hP)
  · exact absurd hP hz
def C_X10_fails : List (Nat × dc_H) := [(150, H_X10_failsAt)]
theorem CO_X10_fails {u : Nat} : dc_CO u C_X10_fails := dc_CO_cons H_X10_failsAt_ok (dc_CO_nil)
def S_X10_fails : List (Nat × List Nat) := []
def d_X10_fails (x0 : Nat) (x1 : Int32) (m : dc_M) : dc_M :=
  (dc_let (d_X10_failsAt x0 x1 (m.1 x0 18) m) (fun q1 => q1))
set_option maxHeartbeats 8000000 in
theorem k_X10_fails {u : Nat} {N : Nat} {Φ : dc_M → Option Value → dc_M → Prop} (x0 : Nat) (x1 : Int32) (m : dc_M) (kR : ∀  (m : dc_M), Φ (m) (none) m)  {lv : ab_L} (f0 : ab_lk lv 0 = some (.ref x0)) (f1 : ab_lk lv 1 = some (.int x1)) : dc_pv u N ab_M_X10_fails 0 lv [] m (Φ (d_X10_fails x0 x1 m)) := by
  refine dc_pv.mono (dc_ok (C := C_X10_fails) (S := S_X10_fails) CO_X10_fails 400 0 [(0, .ref x0), (1, .int x1)] lv [] m (dc_sub_cons f0 (dc_sub_cons f1 (dc_sub_nil))) ?_) (Nat.le_succ N)
  unfold d_X10_fails
  refine dg_s (pc' := 1) [.ref x0] rfl (fun _ => rfl) rfl ?_
  refine dg_s (pc' := 2) [.int x1, .ref x0] rfl (fun _ => rfl) rfl ?_
  refine dg_s (pc' := 3) [.ref x0, .int x1, .ref x0] rfl (fun _ => rfl) rfl ?_
  refine dg_s (pc' := 6) [.int (m.1 x0 18), .int x1, .ref x0] rfl (fun _ => rfl) rfl ?_
  refine dw_l (fun t => Φ t) (pc' := 9) (fun q1 => []) (fun q1 => q1) rfl (fun _ => rfl) (fun q1 => ?_)
  refine dw_g rfl ?_
  exact dw_r (some (.inl (none, q1))) rfl (fun _ => rfl) (kR _)
def H_X10_fails : dc_H := fun As m k => match As with
  | [.ref x0, .int x1] => dc_let (d_X10_fails x0 x1 m) (fun q => k (none) q)
  | _ => dc_kz
theorem H_X10_fails_ok {u : Nat} : dc_cok u 151 H_X10_fails := fun M' hG N As m k P hz hP => by
  obtain rfl : ab_M_X10_fails = M' := Option.some.inj hG
  unfold H_X10_fails at hP
  split at hP
  · rename_i x0 x1
    exact dc_pv.imp (k_X10_fails (Φ := fun (t : dc_M) r m' => P (dc_let t (fun q => k (none) q)) → P (k r m')) x0 x1 m (fun _ h => h) rfl rfl) (fun r m' h => h hP)
  · exact absurd hP hz
def C_X10_next : List (Nat × dc_H) := [(149, H_X10_byteAt), (151, H_X10_fails), (146, H_X10_in)]
theorem CO_X10_next {u : Nat} : dc_CO u C_X10_next := dc_CO_cons H_X10_byteAt_ok (dc_CO_cons H_X10_fails_ok (dc_CO_cons H_X10_in_ok (dc_CO_nil)))
def S_X10_next : List (Nat × List Nat) := [(8, [0]), (34, [0]), (84, [0]), (182, [0, 1]), (216, [0, 1])]
noncomputable def d_X10_next_b216 (x0 : Nat) (x1 : Int32) (m : dc_M) : Option dc_M :=
  (if (Int32.toInt (((dc_wi (dc_wi m x0 20 (x1 - (48 : Int32))) x0 19 (2 : Int32)).1 x0 17) - ((dc_wi (dc_wi m x0 20 (x1 - (48 : Int32))) x0 19 (2 : Int32)).1 x0 18))) ≤ 1 then some ((dc_wi (dc_wi m x0 20 (x1 - (48 : Int32))) x0 19 (2 : Int32))) else (dc_let (d_X10_fails x0 (1 : Int32) (dc_wi (dc_wi m x0 20 (x1 - (48 : Int32))) x0 19 (2 : Int32))) (fun q1 => some (q1))))
set_option maxHeartbeats 8000000 in
theorem k_X10_next_b216 {u : Nat} {N : Nat} {Φ : (Option dc_M) → Option Value → dc_M → Prop} (x0 : Nat) (x1 : Int32) (m : dc_M) (kR : ∀  (m : dc_M), Φ (some (m)) (none) m)  {lv : ab_L} (f0 : ab_lk lv 0 = some (.ref x0)) (f1 : ab_lk lv 1 = some (.int x1)) : dc_pv u N ab_M_X10_next 216 lv [] m (Φ (d_X10_next_b216 x0 x1 m)) := by
  refine dc_pv.mono (dc_ok (C := C_X10_next) (S := S_X10_next) CO_X10_next 400 216 [(0, .ref x0), (1, .int x1)] lv [] m (dc_sub_cons f0 (dc_sub_cons f1 (dc_sub_nil))) ?_) (Nat.le_succ N)
  unfold d_X10_next_b216
  refine dg_s (pc' := 217) [.ref x0] rfl (fun _ => rfl) rfl ?_
  refine dg_s (pc' := 218) [.int x1, .ref x0] rfl (fun _ => rfl) rfl ?_
  refine dg_s (pc' := 220) [.int (48 : Int32), .int x1, .ref x0] rfl (fun _ => rfl) rfl ?_
  refine dg_s (pc' := 221) [.int (x1 - (48 : Int32)), .ref x0] rfl (fun _ => rfl) rfl ?_
  refine dg_m (pc' := 224) (dc_wi m x0 20 (x1 - (48 : Int32))) [] rfl (fun _ => rfl) rfl ?_
  refine dg_s (pc' := 225) [.ref x0] rfl (fun _ => rfl) rfl ?_
  refine dg_s (pc' := 226) [.int (2 : Int32), .ref x0] rfl (fun _ => rfl) rfl ?_
  refine dg_m (pc' := 229) (dc_wi (dc_wi m x0 20 (x1 - (48 : Int32))) x0 19 (2 : Int32)) [] rfl (fun _ => rfl) rfl ?_
  refine dg_s (pc' := 230) [.ref x0] rfl (fun _ => rfl) rfl ?_
  refine dg_s (pc' := 233) [.int ((dc_wi (dc_wi m x0 20 (x1 - (48 : Int32))) x0 19 (2 : Int32)).1 x0 17)] rfl (fun _ => rfl) rfl ?_
  refine dg_s (pc' := 234) [.ref x0, .int ((dc_wi (dc_wi m x0 20 (x1 - (48 : Int32))) x0 19 (2 : Int32)).1 x0 17)] rfl (fun _ => rfl) rfl ?_
  refine dg_s (pc' := 237) [.int ((dc_wi (dc_wi m x0 20 (x1 - (48 : Int32))) x0 19 (2 : Int32)).1 x0 18), .int ((dc_wi (dc_wi m x0 20 (x1 - (48 : Int32))) x0 19 (2 : Int32)).1 x0 17)] rfl (fun _ => rfl) rfl ?_
  refine dg_s (pc' := 238) [.int (((dc_wi (dc_wi m x0 20 (x1 - (48 : Int32))) x0 19 (2 : Int32)).1 x0 17) - ((dc_wi (dc_wi m x0 20 (x1 - (48 : Int32))) x0 19 (2 : Int32)).1 x0 18))] rfl (fun _ => rfl) rfl ?_
  refine dg_s (pc' := 239) [.int (1 : Int32), .int (((dc_wi (dc_wi m x0 20 (x1 - (48 : Int32))) x0 19 (2 : Int32)).1 x0 17) - ((dc_wi (dc_wi m x0 20 (x1 - (48 : Int32))) x0 19 (2 : Int32)).1 x0 18))] rfl (fun _ => rfl) rfl ?_
  refine dw_if (fun t => Φ t) ((Int32.toInt (((dc_wi (dc_wi m x0 20 (x1 - (48 : Int32))) x0 19 (2 : Int32)).1 x0 17) - ((dc_wi (dc_wi m x0 20 (x1 - (48 : Int32))) x0 19 (2 : Int32)).1 x0 18))) ≤ 1) [] 305 242 rfl (fun _ => rfl) (fun c0 => ?_) (fun c0 => ?_)
  · refine dw_g rfl ?_
    exact dw_r (some (.inl (none, (dc_wi (dc_wi m x0 20 (x1 - (48 : Int32))) x0 19 (2 : Int32))))) rfl (fun _ => rfl) (kR _)
  · refine dw_g rfl ?_
    refine dg_s (pc' := 243) [.ref x0] rfl (fun _ => rfl) rfl ?_
    refine dg_s (pc' := 244) [.int (1 : Int32), .ref x0] rfl (fun _ => rfl) rfl ?_
    refine dw_l (fun t => Φ t) (pc' := 247) (fun q1 => []) (fun q1 => q1) rfl (fun _ => rfl) (fun q1 => ?_)
    refine dw_g rfl ?_
    refine dg_s (pc' := 305) [] rfl (fun _ => rfl) rfl ?_
    exact dw_r (some (.inl (none, q1))) rfl (fun _ => rfl) (kR _)
noncomputable def d_X10_next_l182b (x0 : Nat) (x1 : Int32)  (m : dc_M) : Option (dc_M ⊕ dc_M) :=
  (if (Int32.toInt (d_X10_in (Int32.toInt64 (d_X10_byteAt x0 (m.1 x0 17) m)) (48 : Int64) (57 : Int64) m)) = 0 then ((d_X10_next_b216 x0 x1 m).map (fun z => Sum.inr (z))) else some (Sum.inl (dc_wi m x0 17 ((m.1 x0 17) + (1 : Int32)))))
noncomputable def d_X10_next_l182s (x0 : Nat) (x1 : Int32) : dc_M → Option (dc_M ⊕ dc_M) := fun s => d_X10_next_l182b x0 x1 s
noncomputable def d_X10_next_l182 (x0 : Nat) (x1 : Int32)  (m : dc_M) : Option dc_M := dc_lp (d_X10_next_l182s x0 x1) m
set_option maxHeartbeats 8000000 in
theorem k_X10_next_l182 {u : Nat} {Φ : (Option dc_M) → Option Value → dc_M → Prop} (x0 : Nat) (x1 : Int32) (kR : ∀  (m : dc_M), Φ (some (m)) (none) m) : ∀ (N : Nat), ∀  (m : dc_M) (lv : ab_L), ab_lk lv 0 = some (.ref x0) → ab_lk lv 1 = some (.int x1) → dc_pv u N ab_M_X10_next 182 lv [] m (Φ (d_X10_next_l182 x0 x1  m)) := by
  intro N
  induction N with
  | zero => intros; exact dc_pv_zero
  | succ N ih =>
    intro m lv f0 f1
    refine dc_ok (C := C_X10_next) (S := S_X10_next) CO_X10_next 400 182 [(0, .ref x0), (1, .int x1)] lv [] m (dc_sub_cons f0 (dc_sub_cons f1 (dc_sub_nil))) ?_
    unfold d_X10_next_l182
    rw [dc_lp_eq]
    show (fun t x => dc_lf u N ab_M_X10_next (Φ (Option.bind t (dc_bk (d_X10_next_l182s x0 x1)))) x) (d_X10_next_l182b x0 x1  m) _
    dsimp only
    unfold d_X10_next_l182b
    refine dg_s (pc' := 183) [.ref x0] rfl (fun _ => rfl) rfl ?_
    refine dg_s (pc' := 184) [.ref x0, .ref x0] rfl (fun _ => rfl) rfl ?_
    refine dg_s (pc' := 187) [.int (m.1 x0 17), .ref x0] rfl (fun _ => rfl) rfl ?_
    refine dg_s (pc' := 190) [.int (d_X10_byteAt x0 (m.1 x0 17) m)] rfl (fun _ => rfl) rfl ?_
    refine dg_s (pc' := 191) [.long (Int32.toInt64 (d_X10_byteAt x0 (m.1 x0 17) m))] rfl (fun _ => rfl) rfl ?_
    refine dg_s (pc' := 194) [.long (48 : Int64), .long (Int32.toInt64 (d_X10_byteAt x0 (m.1 x0 17) m))] rfl (fun _ => rfl) rfl ?_
    refine dg_s (pc' := 197) [.long (57 : Int64), .long (48 : Int64), .long (Int32.toInt64 (d_X10_byteAt x0 (m.1 x0 17) m))] rfl (fun _ => rfl) rfl ?_
    refine dg_s (pc' := 200) [.int (d_X10_in (Int32.toInt64 (d_X10_byteAt x0 (m.1 x0 17) m)) (48 : Int64) (57 : Int64) m)] rfl (fun _ => rfl) rfl ?_
    refine dw_if (fun t => Φ (Option.bind t (dc_bk (d_X10_next_l182s x0 x1)))) ((Int32.toInt (d_X10_in (Int32.toInt64 (d_X10_byteAt x0 (m.1 x0 17) m)) (48 : Int64) (57 : Int64) m)) = 0) [] 216 203 rfl (fun _ => rfl) (fun c0 => ?_) (fun c0 => ?_)
    · exact dw_j rfl (fun lv1 hv => k_X10_next_b216 (Φ := (fun t => Φ (Option.bind (t.map (fun z => Sum.inr (z))) (dc_bk (d_X10_next_l182s x0 x1))))) x0 x1 m (fun _b => kR _b)  (hv.1 _ rfl) (hv.2.1 _ rfl))
    · refine dw_g rfl ?_
      refine dg_s (pc' := 204) [.ref x0] rfl (fun _ => rfl) rfl ?_
      refine dg_s (pc' := 205) [.ref x0, .ref x0] rfl (fun _ => rfl) rfl ?_
      refine dg_s (pc' := 208) [.int (m.1 x0 17), .ref x0] rfl (fun _ => rfl) rfl ?_
      refine dg_s (pc' := 209) [.int (1 : Int32), .int (m.1 x0 17), .ref x0] rfl (fun _ => rfl) rfl ?_
      refine dg_s (pc' := 210) [.int ((m.1 x0 17) + (1 : Int32)), .ref x0] rfl (fun _ => rfl) rfl ?_
      refine dg_m (pc' := 213) (dc_wi m x0 17 ((m.1 x0 17) + (1 : Int32))) [] rfl (fun _ => rfl) rfl ?_
      refine dw_s (pc' := 182) [] rfl (fun _ => rfl) ?_
      exact dw_j rfl (fun lv1 hv => ih (dc_wi m x0 17 ((m.1 x0 17) + (1 : Int32))) lv1 (hv.1 _ rfl) (hv.2.1 _ rfl))
noncomputable def d_X10_next_l84b (x0 : Nat)  (m : dc_M) : Option (dc_M ⊕ dc_M) :=
  (if (Int32.toInt (d_X10_in (Int32.toInt64 (d_X10_byteAt x0 (m.1 x0 17) m)) (97 : Int64) (122 : Int64) m)) = 0 then some (Sum.inr ((dc_wi m x0 19 (1 : Int32)))) else (if 5 ≤ (Int32.toInt ((m.1 x0 17) - (m.1 x0 18))) then some (Sum.inl (dc_wi (dc_wi m x0 20 (-1 : Int32)) x0 17 (((dc_wi m x0 20 (-1 : Int32)).1 x0 17) + (1 : Int32)))) else some (Sum.inl (dc_wi (dc_wi m x0 20 (((((32 : Int32) * (m.1 x0 20)) + (d_X10_byteAt x0 (m.1 x0 17) m)) - (97 : Int32)) + (1 : Int32))) x0 17 (((dc_wi m x0 20 (((((32 : Int32) * (m.1 x0 20)) + (d_X10_byteAt x0 (m.1 x0 17) m)) - (97 : Int32)) + (1 : Int32))).1 x0 17) + (1 : Int32))))))
noncomputable def d_X10_next_l84s (x0 : Nat) : dc_M → Option (dc_M ⊕ dc_M) := fun s => d_X10_next_l84b x0 s
noncomputable def d_X10_next_l84 (x0 : Nat)  (m : dc_M) : Option dc_M := dc_lp (d_X10_next_l84s x0) m
set_option maxHeartbeats 8000000 in
theorem k_X10_next_l84 {u : Nat} {Φ : (Option dc_M) → Option Value → dc_M → Prop} (x0 : Nat) (kR : ∀  (m : dc_M), Φ (some (m)) (none) m) : ∀ (N : Nat), ∀  (m : dc_M) (lv : ab_L), ab_lk lv 0 = some (.ref x0) → dc_pv u N ab_M_X10_next 84 lv [] m (Φ (d_X10_next_l84 x0  m)) := by
  intro N
  induction N with
  | zero => intros; exact dc_pv_zero
  | succ N ih =>
    intro m lv f0
    refine dc_ok (C := C_X10_next) (S := S_X10_next) CO_X10_next 400 84 [(0, .ref x0)] lv [] m (dc_sub_cons f0 (dc_sub_nil)) ?_
    unfold d_X10_next_l84
    rw [dc_lp_eq]
    show (fun t x => dc_lf u N ab_M_X10_next (Φ (Option.bind t (dc_bk (d_X10_next_l84s x0)))) x) (d_X10_next_l84b x0  m) _
    dsimp only
    unfold d_X10_next_l84b
    refine dg_s (pc' := 85) [.ref x0] rfl (fun _ => rfl) rfl ?_
    refine dg_s (pc' := 86) [.ref x0, .ref x0] rfl (fun _ => rfl) rfl ?_
    refine dg_s (pc' := 89) [.int (m.1 x0 17), .ref x0] rfl (fun _ => rfl) rfl ?_
    refine dg_s (pc' := 92) [.int (d_X10_byteAt x0 (m.1 x0 17) m)] rfl (fun _ => rfl) rfl ?_
    refine dg_s (pc' := 93) [.long (Int32.toInt64 (d_X10_byteAt x0 (m.1 x0 17) m))] rfl (fun _ => rfl) rfl ?_
    refine dg_s (pc' := 96) [.long (97 : Int64), .long (Int32.toInt64 (d_X10_byteAt x0 (m.1 x0 17) m))] rfl (fun _ => rfl) rfl ?_
    refine dg_s (pc' := 99) [.long (122 : Int64), .long (97 : Int64), .long (Int32.toInt64 (d_X10_byteAt x0 (m.1 x0 17) m))] rfl (fun _ => rfl) rfl ?_
    refine dg_s (pc' := 102) [.int (d_X10_in (Int32.toInt64 (d_X10_byteAt x0 (m.1 x0 17) m)) (97 : Int64) (122 : Int64) m)] rfl (fun _ => rfl) rfl ?_
    refine dw_if (fun t => Φ (Option.bind t (dc_bk (d_X10_next_l84s x0)))) ((Int32.toInt (d_X10_in (Int32.toInt64 (d_X10_byteAt x0 (m.1 x0 17) m)) (97 : Int64) (122 : Int64) m)) = 0) [] 160 105 rfl (fun _ => rfl) (fun c0 => ?_) (fun c0 => ?_)
    · refine dw_g rfl ?_
      refine dg_s (pc' := 161) [.ref x0] rfl (fun _ => rfl) rfl ?_
      refine dg_s (pc' := 162) [.int (1 : Int32), .ref x0] rfl (fun _ => rfl) rfl ?_
      refine dg_m (pc' := 165) (dc_wi m x0 19 (1 : Int32)) [] rfl (fun _ => rfl) rfl ?_
      refine dg_s (pc' := 305) [] rfl (fun _ => rfl) rfl ?_
      exact dw_r (some (.inl (none, (dc_wi m x0 19 (1 : Int32))))) rfl (fun _ => rfl) (kR _)
    · refine dw_g rfl ?_
      refine dg_s (pc' := 106) [.ref x0] rfl (fun _ => rfl) rfl ?_
      refine dg_s (pc' := 107) [.ref x0, .ref x0] rfl (fun _ => rfl) rfl ?_
      refine dg_s (pc' := 110) [.int (m.1 x0 17), .ref x0] rfl (fun _ => rfl) rfl ?_
      refine dg_s (pc' := 111) [.ref x0, .int (m.1 x0 17), .ref x0] rfl (fun _ => rfl) rfl ?_
      refine dg_s (pc' := 114) [.int (m.1 x0 18), .int (m.1 x0 17), .ref x0] rfl (fun _ => rfl) rfl ?_
      refine dg_s (pc' := 115) [.int ((m.1 x0 17) - (m.1 x0 18)), .ref x0] rfl (fun _ => rfl) rfl ?_
      refine dg_s (pc' := 116) [.int (5 : Int32), .int ((m.1 x0 17) - (m.1 x0 18)), .ref x0] rfl (fun _ => rfl) rfl ?_
      refine dw_if (fun t => Φ (Option.bind t (dc_bk (d_X10_next_l84s x0)))) (5 ≤ (Int32.toInt ((m.1 x0 17) - (m.1 x0 18)))) [.ref x0] 143 119 rfl (fun _ => rfl) (fun c1 => ?_) (fun c1 => ?_)
      · refine dw_g rfl ?_
        refine dg_s (pc' := 144) [.int (-1 : Int32), .ref x0] rfl (fun _ => rfl) rfl ?_
        refine dg_m (pc' := 147) (dc_wi m x0 20 (-1 : Int32)) [] rfl (fun _ => rfl) rfl ?_
        refine dg_s (pc' := 148) [.ref x0] rfl (fun _ => rfl) rfl ?_
        refine dg_s (pc' := 149) [.ref x0, .ref x0] rfl (fun _ => rfl) rfl ?_
        refine dg_s (pc' := 152) [.int ((dc_wi m x0 20 (-1 : Int32)).1 x0 17), .ref x0] rfl (fun _ => rfl) rfl ?_
        refine dg_s (pc' := 153) [.int (1 : Int32), .int ((dc_wi m x0 20 (-1 : Int32)).1 x0 17), .ref x0] rfl (fun _ => rfl) rfl ?_
        refine dg_s (pc' := 154) [.int (((dc_wi m x0 20 (-1 : Int32)).1 x0 17) + (1 : Int32)), .ref x0] rfl (fun _ => rfl) rfl ?_
        refine dg_m (pc' := 157) (dc_wi (dc_wi m x0 20 (-1 : Int32)) x0 17 (((dc_wi m x0 20 (-1 : Int32)).1 x0 17) + (1 : Int32))) [] rfl (fun _ => rfl) rfl ?_
        refine dw_s (pc' := 84) [] rfl (fun _ => rfl) ?_
        exact dw_j rfl (fun lv1 hv => ih (dc_wi (dc_wi m x0 20 (-1 : Int32)) x0 17 (((dc_wi m x0 20 (-1 : Int32)).1 x0 17) + (1 : Int32))) lv1 (hv.1 _ rfl))
      · refine dw_g rfl ?_
        refine dg_s (pc' := 121) [.int (32 : Int32), .ref x0] rfl (fun _ => rfl) rfl ?_
        refine dg_s (pc' := 122) [.ref x0, .int (32 : Int32), .ref x0] rfl (fun _ => rfl) rfl ?_
        refine dg_s (pc' := 125) [.int (m.1 x0 20), .int (32 : Int32), .ref x0] rfl (fun _ => rfl) rfl ?_
        refine dg_s (pc' := 126) [.int ((32 : Int32) * (m.1 x0 20)), .ref x0] rfl (fun _ => rfl) rfl ?_
        refine dg_s (pc' := 127) [.ref x0, .int ((32 : Int32) * (m.1 x0 20)), .ref x0] rfl (fun _ => rfl) rfl ?_
        refine dg_s (pc' := 128) [.ref x0, .ref x0, .int ((32 : Int32) * (m.1 x0 20)), .ref x0] rfl (fun _ => rfl) rfl ?_
        refine dg_s (pc' := 131) [.int (m.1 x0 17), .ref x0, .int ((32 : Int32) * (m.1 x0 20)), .ref x0] rfl (fun _ => rfl) rfl ?_
        refine dg_s (pc' := 134) [.int (d_X10_byteAt x0 (m.1 x0 17) m), .int ((32 : Int32) * (m.1 x0 20)), .ref x0] rfl (fun _ => rfl) rfl ?_
        refine dg_s (pc' := 135) [.int (((32 : Int32) * (m.1 x0 20)) + (d_X10_byteAt x0 (m.1 x0 17) m)), .ref x0] rfl (fun _ => rfl) rfl ?_
        refine dg_s (pc' := 137) [.int (97 : Int32), .int (((32 : Int32) * (m.1 x0 20)) + (d_X10_byteAt x0 (m.1 x0 17) m)), .ref x0] rfl (fun _ => rfl) rfl ?_
        refine dg_s (pc' := 138) [.int ((((32 : Int32) * (m.1 x0 20)) + (d_X10_byteAt x0 (m.1 x0 17) m)) - (97 : Int32)), .ref x0] rfl (fun _ => rfl) rfl ?_
        refine dg_s (pc' := 139) [.int (1 : Int32), .int ((((32 : Int32) * (m.1 x0 20)) + (d_X10_byteAt x0 (m.1 x0 17) m)) - (97 : Int32)), .ref x0] rfl (fun _ => rfl) rfl ?_
        refine dg_s (pc' := 140) [.int (((((32 : Int32) * (m.1 x0 20)) + (d_X10_byteAt x0 (m.1 x0 17) m)) - (97 : Int32)) + (1 : Int32)), .ref x0] rfl (fun _ => rfl) rfl ?_
        refine dg_s (pc' := 144) [.int (((((32 : Int32) * (m.1 x0 20)) + (d_X10_byteAt x0 (m.1 x0 17) m)) - (97 : Int32)) + (1 : Int32)), .ref x0] rfl (fun _ => rfl) rfl ?_
        refine dg_m (pc' := 147) (dc_wi m x0 20 (((((32 : Int32) * (m.1 x0 20)) + (d_X10_byteAt x0 (m.1 x0 17) m)) - (97 : Int32)) + (1 : Int32))) [] rfl (fun _ => rfl) rfl ?_
        refine dg_s (pc' := 148) [.ref x0] rfl (fun _ => rfl) rfl ?_
        refine dg_s (pc' := 149) [.ref x0, .ref x0] rfl (fun _ => rfl) rfl ?_
        refine dg_s (pc' := 152) [.int ((dc_wi m x0 20 (((((32 : Int32) * (m.1 x0 20)) + (d_X10_byteAt x0 (m.1 x0 17) m)) - (97 : Int32)) + (1 : Int32))).1 x0 17), .ref x0] rfl (fun _ => rfl) rfl ?_
        refine dg_s (pc' := 153) [.int (1 : Int32), .int ((dc_wi m x0 20 (((((32 : Int32) * (m.1 x0 20)) + (d_X10_byteAt x0 (m.1 x0 17) m)) - (97 : Int32)) + (1 : Int32))).1 x0 17), .ref x0] rfl (fun _ => rfl) rfl ?_
        refine dg_s (pc' := 154) [.int (((dc_wi m x0 20 (((((32 : Int32) * (m.1 x0 20)) + (d_X10_byteAt x0 (m.1 x0 17) m)) - (97 : Int32)) + (1 : Int32))).1 x0 17) + (1 : Int32)), .ref x0] rfl (fun _ => rfl) rfl ?_
        refine dg_m (pc' := 157) (dc_wi (dc_wi m x0 20 (((((32 : Int32) * (m.1 x0 20)) + (d_X10_byteAt x0 (m.1 x0 17) m)) - (97 : Int32)) + (1 : Int32))) x0 17 (((dc_wi m x0 20 (((((32 : Int32) * (m.1 x0 20)) + (d_X10_byteAt x0 (m.1 x0 17) m)) - (97 : Int32)) + (1 : Int32))).1 x0 17) + (1 : Int32))) [] rfl (fun _ => rfl) rfl ?_
        refine dw_s (pc' := 84) [] rfl (fun _ => rfl) ?_
        exact dw_j rfl (fun lv1 hv => ih (dc_wi (dc_wi m x0 20 (((((32 : Int32) * (m.1 x0 20)) + (d_X10_byteAt x0 (m.1 x0 17) m)) - (97 : Int32)) + (1 : Int32))) x0 17 (((dc_wi m x0 20 (((((32 : Int32) * (m.1 x0 20)) + (d_X10_byteAt x0 (m.1 x0 17) m)) - (97 : Int32)) + (1 : Int32))).1 x0 17) + (1 : Int32))) lv1 (hv.1 _ rfl))
noncomputable def d_X10_next_b34 (x0 : Nat) (m : dc_M) : Option dc_M :=
  (if ¬ (Int32.toInt (d_X10_byteAt x0 ((dc_wi m x0 18 (m.1 x0 17)).1 x0 17) (dc_wi m x0 18 (m.1 x0 17)))) = (-4) then (if (Int32.toInt (d_X10_in (Int32.toInt64 (d_X10_byteAt x0 ((dc_wi m x0 18 (m.1 x0 17)).1 x0 17) (dc_wi m x0 18 (m.1 x0 17)))) (97 : Int64) (122 : Int64) (dc_wi (dc_wi m x0 18 (m.1 x0 17)) x0 20 (0 : Int32)))) = 0 then (if (Int32.toInt (d_X10_in (Int32.toInt64 (d_X10_byteAt x0 ((dc_wi m x0 18 (m.1 x0 17)).1 x0 17) (dc_wi m x0 18 (m.1 x0 17)))) (48 : Int64) (57 : Int64) (dc_wi (dc_wi m x0 18 (m.1 x0 17)) x0 20 (0 : Int32)))) = 0 then (if (Int32.toInt (d_X10_byteAt x0 ((dc_wi m x0 18 (m.1 x0 17)).1 x0 17) (dc_wi m x0 18 (m.1 x0 17)))) = 43 then some ((dc_wi (dc_wi (dc_wi (dc_wi (dc_wi m x0 18 (m.1 x0 17)) x0 20 (0 : Int32)) x0 19 (3 : Int32)) x0 20 (d_X10_byteAt x0 ((dc_wi m x0 18 (m.1 x0 17)).1 x0 17) (dc_wi m x0 18 (m.1 x0 17)))) x0 17 (((dc_wi (dc_wi (dc_wi (dc_wi m x0 18 (m.1 x0 17)) x0 20 (0 : Int32)) x0 19 (3 : Int32)) x0 20 (d_X10_byteAt x0 ((dc_wi m x0 18 (m.1 x0 17)).1 x0 17) (dc_wi m x0 18 (m.1 x0 17)))).1 x0 17) + (1 : Int32)))) else (if (Int32.toInt (d_X10_byteAt x0 ((dc_wi m x0 18 (m.1 x0 17)).1 x0 17) (dc_wi m x0 18 (m.1 x0 17)))) = 45 then some ((dc_wi (dc_wi (dc_wi (dc_wi (dc_wi m x0 18 (m.1 x0 17)) x0 20 (0 : Int32)) x0 19 (3 : Int32)) x0 20 (d_X10_byteAt x0 ((dc_wi m x0 18 (m.1 x0 17)).1 x0 17) (dc_wi m x0 18 (m.1 x0 17)))) x0 17 (((dc_wi (dc_wi (dc_wi (dc_wi m x0 18 (m.1 x0 17)) x0 20 (0 : Int32)) x0 19 (3 : Int32)) x0 20 (d_X10_byteAt x0 ((dc_wi m x0 18 (m.1 x0 17)).1 x0 17) (dc_wi m x0 18 (m.1 x0 17)))).1 x0 17) + (1 : Int32)))) else (if (Int32.toInt (d_X10_byteAt x0 ((dc_wi m x0 18 (m.1 x0 17)).1 x0 17) (dc_wi m x0 18 (m.1 x0 17)))) = 47 then some ((dc_wi (dc_wi (dc_wi (dc_wi (dc_wi m x0 18 (m.1 x0 17)) x0 20 (0 : Int32)) x0 19 (3 : Int32)) x0 20 (d_X10_byteAt x0 ((dc_wi m x0 18 (m.1 x0 17)).1 x0 17) (dc_wi m x0 18 (m.1 x0 17)))) x0 17 (((dc_wi (dc_wi (dc_wi (dc_wi m x0 18 (m.1 x0 17)) x0 20 (0 : Int32)) x0 19 (3 : Int32)) x0 20 (d_X10_byteAt x0 ((dc_wi m x0 18 (m.1 x0 17)).1 x0 17) (dc_wi m x0 18 (m.1 x0 17)))).1 x0 17) + (1 : Int32)))) else (if (Int32.toInt (d_X10_byteAt x0 ((dc_wi m x0 18 (m.1 x0 17)).1 x0 17) (dc_wi m x0 18 (m.1 x0 17)))) = 62 then some ((dc_wi (dc_wi (dc_wi (dc_wi (dc_wi m x0 18 (m.1 x0 17)) x0 20 (0 : Int32)) x0 19 (3 : Int32)) x0 20 (d_X10_byteAt x0 ((dc_wi m x0 18 (m.1 x0 17)).1 x0 17) (dc_wi m x0 18 (m.1 x0 17)))) x0 17 (((dc_wi (dc_wi (dc_wi (dc_wi m x0 18 (m.1 x0 17)) x0 20 (0 : Int32)) x0 19 (3 : Int32)) x0 20 (d_X10_byteAt x0 ((dc_wi m x0 18 (m.1 x0 17)).1 x0 17) (dc_wi m x0 18 (m.1 x0 17)))).1 x0 17) + (1 : Int32)))) else (if (Int32.toInt (d_X10_byteAt x0 ((dc_wi m x0 18 (m.1 x0 17)).1 x0 17) (dc_wi m x0 18 (m.1 x0 17)))) = 59 then some ((dc_wi (dc_wi (dc_wi (dc_wi (dc_wi m x0 18 (m.1 x0 17)) x0 20 (0 : Int32)) x0 19 (3 : Int32)) x0 20 (d_X10_byteAt x0 ((dc_wi m x0 18 (m.1 x0 17)).1 x0 17) (dc_wi m x0 18 (m.1 x0 17)))) x0 17 (((dc_wi (dc_wi (dc_wi (dc_wi m x0 18 (m.1 x0 17)) x0 20 (0 : Int32)) x0 19 (3 : Int32)) x0 20 (d_X10_byteAt x0 ((dc_wi m x0 18 (m.1 x0 17)).1 x0 17) (dc_wi m x0 18 (m.1 x0 17)))).1 x0 17) + (1 : Int32)))) else (dc_let (d_X10_fails x0 (1 : Int32) (dc_wi (dc_wi (dc_wi (dc_wi (dc_wi m x0 18 (m.1 x0 17)) x0 20 (0 : Int32)) x0 19 (3 : Int32)) x0 20 (d_X10_byteAt x0 ((dc_wi m x0 18 (m.1 x0 17)).1 x0 17) (dc_wi m x0 18 (m.1 x0 17)))) x0 17 (((dc_wi (dc_wi (dc_wi (dc_wi m x0 18 (m.1 x0 17)) x0 20 (0 : Int32)) x0 19 (3 : Int32)) x0 20 (d_X10_byteAt x0 ((dc_wi m x0 18 (m.1 x0 17)).1 x0 17) (dc_wi m x0 18 (m.1 x0 17)))).1 x0 17) + (1 : Int32)))) (fun q1 => some (q1)))))))) else (d_X10_next_l182 x0 (d_X10_byteAt x0 ((dc_wi m x0 18 (m.1 x0 17)).1 x0 17) (dc_wi m x0 18 (m.1 x0 17))) (dc_wi (dc_wi m x0 18 (m.1 x0 17)) x0 20 (0 : Int32)))) else (d_X10_next_l84 x0 (dc_wi (dc_wi m x0 18 (m.1 x0 17)) x0 20 (0 : Int32)))) else some ((dc_wi (dc_wi (dc_wi m x0 18 (m.1 x0 17)) x0 20 (0 : Int32)) x0 19 (0 : Int32))))
set_option maxHeartbeats 8000000 in
theorem k_X10_next_b34 {u : Nat} {N : Nat} {Φ : (Option dc_M) → Option Value → dc_M → Prop} (x0 : Nat) (m : dc_M) (kR : ∀  (m : dc_M), Φ (some (m)) (none) m)  {lv : ab_L} (f0 : ab_lk lv 0 = some (.ref x0)) : dc_pv u N ab_M_X10_next 34 lv [] m (Φ (d_X10_next_b34 x0 m)) := by
  refine dc_pv.mono (dc_ok (C := C_X10_next) (S := S_X10_next) CO_X10_next 400 34 [(0, .ref x0)] lv [] m (dc_sub_cons f0 (dc_sub_nil)) ?_) (Nat.le_succ N)
  unfold d_X10_next_b34
  refine dg_s (pc' := 35) [.ref x0] rfl (fun _ => rfl) rfl ?_
  refine dg_s (pc' := 36) [.ref x0, .ref x0] rfl (fun _ => rfl) rfl ?_
  refine dg_s (pc' := 39) [.int (m.1 x0 17), .ref x0] rfl (fun _ => rfl) rfl ?_
  refine dg_m (pc' := 42) (dc_wi m x0 18 (m.1 x0 17)) [] rfl (fun _ => rfl) rfl ?_
  refine dg_s (pc' := 43) [.ref x0] rfl (fun _ => rfl) rfl ?_
  refine dg_s (pc' := 44) [.ref x0, .ref x0] rfl (fun _ => rfl) rfl ?_
  refine dg_s (pc' := 47) [.int ((dc_wi m x0 18 (m.1 x0 17)).1 x0 17), .ref x0] rfl (fun _ => rfl) rfl ?_
  refine dg_s (pc' := 50) [.int (d_X10_byteAt x0 ((dc_wi m x0 18 (m.1 x0 17)).1 x0 17) (dc_wi m x0 18 (m.1 x0 17)))] rfl (fun _ => rfl) rfl ?_
  refine dg_L (pc' := 51) [(1, .int (d_X10_byteAt x0 ((dc_wi m x0 18 (m.1 x0 17)).1 x0 17) (dc_wi m x0 18 (m.1 x0 17)))), (0, .ref x0)] [] rfl (fun _ => rfl) rfl ?_
  refine dg_s (pc' := 52) [.ref x0] rfl (fun _ => rfl) rfl ?_
  refine dg_s (pc' := 53) [.int (0 : Int32), .ref x0] rfl (fun _ => rfl) rfl ?_
  refine dg_m (pc' := 56) (dc_wi (dc_wi m x0 18 (m.1 x0 17)) x0 20 (0 : Int32)) [] rfl (fun _ => rfl) rfl ?_
  refine dg_s (pc' := 57) [.int (d_X10_byteAt x0 ((dc_wi m x0 18 (m.1 x0 17)).1 x0 17) (dc_wi m x0 18 (m.1 x0 17)))] rfl (fun _ => rfl) rfl ?_
  refine dg_s (pc' := 59) [.int (-4 : Int32), .int (d_X10_byteAt x0 ((dc_wi m x0 18 (m.1 x0 17)).1 x0 17) (dc_wi m x0 18 (m.1 x0 17)))] rfl (fun _ => rfl) rfl ?_
  refine dw_if (fun t => Φ t) (¬ (Int32.toInt (d_X10_byteAt x0 ((dc_wi m x0 18 (m.1 x0 17)).1 x0 17) (dc_wi m x0 18 (m.1 x0 17)))) = (-4)) [] 70 62 rfl (fun _ => rfl) (fun c0 => ?_) (fun c0 => ?_)
  · refine dw_g rfl ?_
    refine dg_s (pc' := 71) [.int (d_X10_byteAt x0 ((dc_wi m x0 18 (m.1 x0 17)).1 x0 17) (dc_wi m x0 18 (m.1 x0 17)))] rfl (fun _ => rfl) rfl ?_
    refine dg_s (pc' := 72) [.long (Int32.toInt64 (d_X10_byteAt x0 ((dc_wi m x0 18 (m.1 x0 17)).1 x0 17) (dc_wi m x0 18 (m.1 x0 17))))] rfl (fun _ => rfl) rfl ?_
    refine dg_s (pc' := 75) [.long (97 : Int64), .long (Int32.toInt64 (d_X10_byteAt x0 ((dc_wi m x0 18 (m.1 x0 17)).1 x0 17) (dc_wi m x0 18 (m.1 x0 17))))] rfl (fun _ => rfl) rfl ?_
    refine dg_s (pc' := 78) [.long (122 : Int64), .long (97 : Int64), .long (Int32.toInt64 (d_X10_byteAt x0 ((dc_wi m x0 18 (m.1 x0 17)).1 x0 17) (dc_wi m x0 18 (m.1 x0 17))))] rfl (fun _ => rfl) rfl ?_
    refine dg_s (pc' := 81) [.int (d_X10_in (Int32.toInt64 (d_X10_byteAt x0 ((dc_wi m x0 18 (m.1 x0 17)).1 x0 17) (dc_wi m x0 18 (m.1 x0 17)))) (97 : Int64) (122 : Int64) (dc_wi (dc_wi m x0 18 (m.1 x0 17)) x0 20 (0 : Int32)))] rfl (fun _ => rfl) rfl ?_
    refine dw_if (fun t => Φ t) ((Int32.toInt (d_X10_in (Int32.toInt64 (d_X10_byteAt x0 ((dc_wi m x0 18 (m.1 x0 17)).1 x0 17) (dc_wi m x0 18 (m.1 x0 17)))) (97 : Int64) (122 : Int64) (dc_wi (dc_wi m x0 18 (m.1 x0 17)) x0 20 (0 : Int32)))) = 0) [] 168 84 rfl (fun _ => rfl) (fun c1 => ?_) (fun c1 => ?_)
    · refine dw_g rfl ?_
      refine dg_s (pc' := 169) [.int (d_X10_byteAt x0 ((dc_wi m x0 18 (m.1 x0 17)).1 x0 17) (dc_wi m x0 18 (m.1 x0 17)))] rfl (fun _ => rfl) rfl ?_
      refine dg_s (pc' := 170) [.long (Int32.toInt64 (d_X10_byteAt x0 ((dc_wi m x0 18 (m.1 x0 17)).1 x0 17) (dc_wi m x0 18 (m.1 x0 17))))] rfl (fun _ => rfl) rfl ?_
      refine dg_s (pc' := 173) [.long (48 : Int64), .long (Int32.toInt64 (d_X10_byteAt x0 ((dc_wi m x0 18 (m.1 x0 17)).1 x0 17) (dc_wi m x0 18 (m.1 x0 17))))] rfl (fun _ => rfl) rfl ?_
      refine dg_s (pc' := 176) [.long (57 : Int64), .long (48 : Int64), .long (Int32.toInt64 (d_X10_byteAt x0 ((dc_wi m x0 18 (m.1 x0 17)).1 x0 17) (dc_wi m x0 18 (m.1 x0 17))))] rfl (fun _ => rfl) rfl ?_
      refine dg_s (pc' := 179) [.int (d_X10_in (Int32.toInt64 (d_X10_byteAt x0 ((dc_wi m x0 18 (m.1 x0 17)).1 x0 17) (dc_wi m x0 18 (m.1 x0 17)))) (48 : Int64) (57 : Int64) (dc_wi (dc_wi m x0 18 (m.1 x0 17)) x0 20 (0 : Int32)))] rfl (fun _ => rfl) rfl ?_
      refine dw_if (fun t => Φ t) ((Int32.toInt (d_X10_in (Int32.toInt64 (d_X10_byteAt x0 ((dc_wi m x0 18 (m.1 x0 17)).1 x0 17) (dc_wi m x0 18 (m.1 x0 17)))) (48 : Int64) (57 : Int64) (dc_wi (dc_wi m x0 18 (m.1 x0 17)) x0 20 (0 : Int32)))) = 0) [] 250 182 rfl (fun _ => rfl) (fun c2 => ?_) (fun c2 => ?_)
      · refine dw_g rfl ?_
        refine dg_s (pc' := 251) [.ref x0] rfl (fun _ => rfl) rfl ?_
        refine dg_s (pc' := 252) [.int (3 : Int32), .ref x0] rfl (fun _ => rfl) rfl ?_
        refine dg_m (pc' := 255) (dc_wi (dc_wi (dc_wi m x0 18 (m.1 x0 17)) x0 20 (0 : Int32)) x0 19 (3 : Int32)) [] rfl (fun _ => rfl) rfl ?_
        refine dg_s (pc' := 256) [.ref x0] rfl (fun _ => rfl) rfl ?_
        refine dg_s (pc' := 257) [.int (d_X10_byteAt x0 ((dc_wi m x0 18 (m.1 x0 17)).1 x0 17) (dc_wi m x0 18 (m.1 x0 17))), .ref x0] rfl (fun _ => rfl) rfl ?_
        refine dg_m (pc' := 260) (dc_wi (dc_wi (dc_wi (dc_wi m x0 18 (m.1 x0 17)) x0 20 (0 : Int32)) x0 19 (3 : Int32)) x0 20 (d_X10_byteAt x0 ((dc_wi m x0 18 (m.1 x0 17)).1 x0 17) (dc_wi m x0 18 (m.1 x0 17)))) [] rfl (fun _ => rfl) rfl ?_
        refine dg_s (pc' := 261) [.ref x0] rfl (fun _ => rfl) rfl ?_
        refine dg_s (pc' := 262) [.ref x0, .ref x0] rfl (fun _ => rfl) rfl ?_
        refine dg_s (pc' := 265) [.int ((dc_wi (dc_wi (dc_wi (dc_wi m x0 18 (m.1 x0 17)) x0 20 (0 : Int32)) x0 19 (3 : Int32)) x0 20 (d_X10_byteAt x0 ((dc_wi m x0 18 (m.1 x0 17)).1 x0 17) (dc_wi m x0 18 (m.1 x0 17)))).1 x0 17), .ref x0] rfl (fun _ => rfl) rfl ?_
        refine dg_s (pc' := 266) [.int (1 : Int32), .int ((dc_wi (dc_wi (dc_wi (dc_wi m x0 18 (m.1 x0 17)) x0 20 (0 : Int32)) x0 19 (3 : Int32)) x0 20 (d_X10_byteAt x0 ((dc_wi m x0 18 (m.1 x0 17)).1 x0 17) (dc_wi m x0 18 (m.1 x0 17)))).1 x0 17), .ref x0] rfl (fun _ => rfl) rfl ?_
        refine dg_s (pc' := 267) [.int (((dc_wi (dc_wi (dc_wi (dc_wi m x0 18 (m.1 x0 17)) x0 20 (0 : Int32)) x0 19 (3 : Int32)) x0 20 (d_X10_byteAt x0 ((dc_wi m x0 18 (m.1 x0 17)).1 x0 17) (dc_wi m x0 18 (m.1 x0 17)))).1 x0 17) + (1 : Int32)), .ref x0] rfl (fun _ => rfl) rfl ?_
        refine dg_m (pc' := 270) (dc_wi (dc_wi (dc_wi (dc_wi (dc_wi m x0 18 (m.1 x0 17)) x0 20 (0 : Int32)) x0 19 (3 : Int32)) x0 20 (d_X10_byteAt x0 ((dc_wi m x0 18 (m.1 x0 17)).1 x0 17) (dc_wi m x0 18 (m.1 x0 17)))) x0 17 (((dc_wi (dc_wi (dc_wi (dc_wi m x0 18 (m.1 x0 17)) x0 20 (0 : Int32)) x0 19 (3 : Int32)) x0 20 (d_X10_byteAt x0 ((dc_wi m x0 18 (m.1 x0 17)).1 x0 17) (dc_wi m x0 18 (m.1 x0 17)))).1 x0 17) + (1 : Int32))) [] rfl (fun _ => rfl) rfl ?_
        refine dg_s (pc' := 271) [.int (d_X10_byteAt x0 ((dc_wi m x0 18 (m.1 x0 17)).1 x0 17) (dc_wi m x0 18 (m.1 x0 17)))] rfl (fun _ => rfl) rfl ?_
        refine dg_s (pc' := 273) [.int (43 : Int32), .int (d_X10_byteAt x0 ((dc_wi m x0 18 (m.1 x0 17)).1 x0 17) (dc_wi m x0 18 (m.1 x0 17)))] rfl (fun _ => rfl) rfl ?_
        refine dw_if (fun t => Φ t) ((Int32.toInt (d_X10_byteAt x0 ((dc_wi m x0 18 (m.1 x0 17)).1 x0 17) (dc_wi m x0 18 (m.1 x0 17)))) = 43) [] 305 276 rfl (fun _ => rfl) (fun c3 => ?_) (fun c3 => ?_)
        · refine dw_g rfl ?_
          exact dw_r (some (.inl (none, (dc_wi (dc_wi (dc_wi (dc_wi (dc_wi m x0 18 (m.1 x0 17)) x0 20 (0 : Int32)) x0 19 (3 : Int32)) x0 20 (d_X10_byteAt x0 ((dc_wi m x0 18 (m.1 x0 17)).1 x0 17) (dc_wi m x0 18 (m.1 x0 17)))) x0 17 (((dc_wi (dc_wi (dc_wi (dc_wi m x0 18 (m.1 x0 17)) x0 20 (0 : Int32)) x0 19 (3 : Int32)) x0 20 (d_X10_byteAt x0 ((dc_wi m x0 18 (m.1 x0 17)).1 x0 17) (dc_wi m x0 18 (m.1 x0 17)))).1 x0 17) + (1 : Int32)))))) rfl (fun _ => rfl) (kR _)
        · refine dw_g rfl ?_
          refine dg_s (pc' := 277) [.int (d_X10_byteAt x0 ((dc_wi m x0 18 (m.1 x0 17)).1 x0 17) (dc_wi m x0 18 (m.1 x0 17)))] rfl (fun _ => rfl) rfl ?_
          refine dg_s (pc' := 279) [.int (45 : Int32), .int (d_X10_byteAt x0 ((dc_wi m x0 18 (m.1 x0 17)).1 x0 17) (dc_wi m x0 18 (m.1 x0 17)))] rfl (fun _ => rfl) rfl ?_
          refine dw_if (fun t => Φ t) ((Int32.toInt (d_X10_byteAt x0 ((dc_wi m x0 18 (m.1 x0 17)).1 x0 17) (dc_wi m x0 18 (m.1 x0 17)))) = 45) [] 305 282 rfl (fun _ => rfl) (fun c4 => ?_) (fun c4 => ?_)
          · refine dw_g rfl ?_
            exact dw_r (some (.inl (none, (dc_wi (dc_wi (dc_wi (dc_wi (dc_wi m x0 18 (m.1 x0 17)) x0 20 (0 : Int32)) x0 19 (3 : Int32)) x0 20 (d_X10_byteAt x0 ((dc_wi m x0 18 (m.1 x0 17)).1 x0 17) (dc_wi m x0 18 (m.1 x0 17)))) x0 17 (((dc_wi (dc_wi (dc_wi (dc_wi m x0 18 (m.1 x0 17)) x0 20 (0 : Int32)) x0 19 (3 : Int32)) x0 20 (d_X10_byteAt x0 ((dc_wi m x0 18 (m.1 x0 17)).1 x0 17) (dc_wi m x0 18 (m.1 x0 17)))).1 x0 17) + (1 : Int32)))))) rfl (fun _ => rfl) (kR _)
          · refine dw_g rfl ?_
            refine dg_s (pc' := 283) [.int (d_X10_byteAt x0 ((dc_wi m x0 18 (m.1 x0 17)).1 x0 17) (dc_wi m x0 18 (m.1 x0 17)))] rfl (fun _ => rfl) rfl ?_
            refine dg_s (pc' := 285) [.int (47 : Int32), .int (d_X10_byteAt x0 ((dc_wi m x0 18 (m.1 x0 17)).1 x0 17) (dc_wi m x0 18 (m.1 x0 17)))] rfl (fun _ => rfl) rfl ?_
            refine dw_if (fun t => Φ t) ((Int32.toInt (d_X10_byteAt x0 ((dc_wi m x0 18 (m.1 x0 17)).1 x0 17) (dc_wi m x0 18 (m.1 x0 17)))) = 47) [] 305 288 rfl (fun _ => rfl) (fun c5 => ?_) (fun c5 => ?_)
            · refine dw_g rfl ?_
              exact dw_r (some (.inl (none, (dc_wi (dc_wi (dc_wi (dc_wi (dc_wi m x0 18 (m.1 x0 17)) x0 20 (0 : Int32)) x0 19 (3 : Int32)) x0 20 (d_X10_byteAt x0 ((dc_wi m x0 18 (m.1 x0 17)).1 x0 17) (dc_wi m x0 18 (m.1 x0 17)))) x0 17 (((dc_wi (dc_wi (dc_wi (dc_wi m x0 18 (m.1 x0 17)) x0 20 (0 : Int32)) x0 19 (3 : Int32)) x0 20 (d_X10_byteAt x0 ((dc_wi m x0 18 (m.1 x0 17)).1 x0 17) (dc_wi m x0 18 (m.1 x0 17)))).1 x0 17) + (1 : Int32)))))) rfl (fun _ => rfl) (kR _)
            · refine dw_g rfl ?_
              refine dg_s (pc' := 289) [.int (d_X10_byteAt x0 ((dc_wi m x0 18 (m.1 x0 17)).1 x0 17) (dc_wi m x0 18 (m.1 x0 17)))] rfl (fun _ => rfl) rfl ?_
              refine dg_s (pc' := 291) [.int (62 : Int32), .int (d_X10_byteAt x0 ((dc_wi m x0 18 (m.1 x0 17)).1 x0 17) (dc_wi m x0 18 (m.1 x0 17)))] rfl (fun _ => rfl) rfl ?_
              refine dw_if (fun t => Φ t) ((Int32.toInt (d_X10_byteAt x0 ((dc_wi m x0 18 (m.1 x0 17)).1 x0 17) (dc_wi m x0 18 (m.1 x0 17)))) = 62) [] 305 294 rfl (fun _ => rfl) (fun c6 => ?_) (fun c6 => ?_)
              · refine dw_g rfl ?_
                exact dw_r (some (.inl (none, (dc_wi (dc_wi (dc_wi (dc_wi (dc_wi m x0 18 (m.1 x0 17)) x0 20 (0 : Int32)) x0 19 (3 : Int32)) x0 20 (d_X10_byteAt x0 ((dc_wi m x0 18 (m.1 x0 17)).1 x0 17) (dc_wi m x0 18 (m.1 x0 17)))) x0 17 (((dc_wi (dc_wi (dc_wi (dc_wi m x0 18 (m.1 x0 17)) x0 20 (0 : Int32)) x0 19 (3 : Int32)) x0 20 (d_X10_byteAt x0 ((dc_wi m x0 18 (m.1 x0 17)).1 x0 17) (dc_wi m x0 18 (m.1 x0 17)))).1 x0 17) + (1 : Int32)))))) rfl (fun _ => rfl) (kR _)
              · refine dw_g rfl ?_
                refine dg_s (pc' := 295) [.int (d_X10_byteAt x0 ((dc_wi m x0 18 (m.1 x0 17)).1 x0 17) (dc_wi m x0 18 (m.1 x0 17)))] rfl (fun _ => rfl) rfl ?_
                refine dg_s (pc' := 297) [.int (59 : Int32), .int (d_X10_byteAt x0 ((dc_wi m x0 18 (m.1 x0 17)).1 x0 17) (dc_wi m x0 18 (m.1 x0 17)))] rfl (fun _ => rfl) rfl ?_
                refine dw_if (fun t => Φ t) ((Int32.toInt (d_X10_byteAt x0 ((dc_wi m x0 18 (m.1 x0 17)).1 x0 17) (dc_wi m x0 18 (m.1 x0 17)))) = 59) [] 305 300 rfl (fun _ => rfl) (fun c7 => ?_) (fun c7 => ?_)
                · refine dw_g rfl ?_
                  exact dw_r (some (.inl (none, (dc_wi (dc_wi (dc_wi (dc_wi (dc_wi m x0 18 (m.1 x0 17)) x0 20 (0 : Int32)) x0 19 (3 : Int32)) x0 20 (d_X10_byteAt x0 ((dc_wi m x0 18 (m.1 x0 17)).1 x0 17) (dc_wi m x0 18 (m.1 x0 17)))) x0 17 (((dc_wi (dc_wi (dc_wi (dc_wi m x0 18 (m.1 x0 17)) x0 20 (0 : Int32)) x0 19 (3 : Int32)) x0 20 (d_X10_byteAt x0 ((dc_wi m x0 18 (m.1 x0 17)).1 x0 17) (dc_wi m x0 18 (m.1 x0 17)))).1 x0 17) + (1 : Int32)))))) rfl (fun _ => rfl) (kR _)
                · refine dw_g rfl ?_
                  refine dg_s (pc' := 301) [.ref x0] rfl (fun _ => rfl) rfl ?_
                  refine dg_s (pc' := 302) [.int (1 : Int32), .ref x0] rfl (fun _ => rfl) rfl ?_
                  refine dw_l (fun t => Φ t) (pc' := 305) (fun q1 => []) (fun q1 => q1) rfl (fun _ => rfl) (fun q1 => ?_)
                  refine dw_g rfl ?_
                  exact dw_r (some (.inl (none, q1))) rfl (fun _ => rfl) (kR _)
      · exact dw_j rfl (fun lv1 hv => k_X10_next_l182 (Φ := (fun t => Φ t)) x0 (d_X10_byteAt x0 ((dc_wi m x0 18 (m.1 x0 17)).1 x0 17) (dc_wi m x0 18 (m.1 x0 17))) (fun _b => kR _b) N   (dc_wi (dc_wi m x0 18 (m.1 x0 17)) x0 20 (0 : Int32)) lv1 (hv.1 _ rfl) (hv.2.1 _ rfl))
    · exact dw_j rfl (fun lv1 hv => k_X10_next_l84 (Φ := (fun t => Φ t)) x0 (fun _b => kR _b) N   (dc_wi (dc_wi m x0 18 (m.1 x0 17)) x0 20 (0 : Int32)) lv1 (hv.1 _ rfl))
  · refine dw_g rfl ?_
    refine dg_s (pc' := 63) [.ref x0] rfl (fun _ => rfl) rfl ?_
    refine dg_s (pc' := 64) [.int (0 : Int32), .ref x0] rfl (fun _ => rfl) rfl ?_
    refine dg_m (pc' := 67) (dc_wi (dc_wi (dc_wi m x0 18 (m.1 x0 17)) x0 20 (0 : Int32)) x0 19 (0 : Int32)) [] rfl (fun _ => rfl) rfl ?_
    refine dg_s (pc' := 305) [] rfl (fun _ => rfl) rfl ?_
    exact dw_r (some (.inl (none, (dc_wi (dc_wi (dc_wi m x0 18 (m.1 x0 17)) x0 20 (0 : Int32)) x0 19 (0 : Int32))))) rfl (fun _ => rfl) (kR _)
noncomputable def d_X10_next_l8b (x0 : Nat)  (m : dc_M) : Option (dc_M ⊕ dc_M) :=
  (if ¬ (Int32.toInt (d_X10_byteAt x0 (m.1 x0 17) m)) = 32 then ((d_X10_next_b34 x0 m).map (fun z => Sum.inr (z))) else some (Sum.inl (dc_wi m x0 17 ((m.1 x0 17) + (1 : Int32)))))
noncomputable def d_X10_next_l8s (x0 : Nat) : dc_M → Option (dc_M ⊕ dc_M) := fun s => d_X10_next_l8b x0 s
noncomputable def d_X10_next_l8 (x0 : Nat)  (m : dc_M) : Option dc_M := dc_lp (d_X10_next_l8s x0) m
set_option maxHeartbeats 8000000 in
theorem k_X10_next_l8 {u : Nat} {Φ : (Option dc_M) → Option Value → dc_M → Prop} (x0 : Nat) (kR : ∀  (m : dc_M), Φ (some (m)) (none) m) : ∀ (N : Nat), ∀  (m : dc_M) (lv : ab_L), ab_lk lv 0 = some (.ref x0) → dc_pv u N ab_M_X10_next 8 lv [] m (Φ (d_X10_next_l8 x0  m)) := by
  intro N
  induction N with
  | zero => intros; exact dc_pv_zero
  | succ N ih =>
    intro m lv f0
    refine dc_ok (C := C_X10_next) (S := S_X10_next) CO_X10_next 400 8 [(0, .ref x0)] lv [] m (dc_sub_cons f0 (dc_sub_nil)) ?_
    unfold d_X10_next_l8
    rw [dc_lp_eq]
    show (fun t x => dc_lf u N ab_M_X10_next (Φ (Option.bind t (dc_bk (d_X10_next_l8s x0)))) x) (d_X10_next_l8b x0  m) _
    dsimp only
    unfold d_X10_next_l8b
    refine dg_s (pc' := 9) [.ref x0] rfl (fun _ => rfl) rfl ?_
    refine dg_s (pc' := 10) [.ref x0, .ref x0] rfl (fun _ => rfl) rfl ?_
    refine dg_s (pc' := 13) [.int (m.1 x0 17), .ref x0] rfl (fun _ => rfl) rfl ?_
    refine dg_s (pc' := 16) [.int (d_X10_byteAt x0 (m.1 x0 17) m)] rfl (fun _ => rfl) rfl ?_
    refine dg_s (pc' := 18) [.int (32 : Int32), .int (d_X10_byteAt x0 (m.1 x0 17) m)] rfl (fun _ => rfl) rfl ?_
    refine dw_if (fun t => Φ (Option.bind t (dc_bk (d_X10_next_l8s x0)))) (¬ (Int32.toInt (d_X10_byteAt x0 (m.1 x0 17) m)) = 32) [] 34 21 rfl (fun _ => rfl) (fun c0 => ?_) (fun c0 => ?_)
    · exact dw_j rfl (fun lv1 hv => k_X10_next_b34 (Φ := (fun t => Φ (Option.bind (t.map (fun z => Sum.inr (z))) (dc_bk (d_X10_next_l8s x0))))) x0 m (fun _b => kR _b)  (hv.1 _ rfl))
    · refine dw_g rfl ?_
      refine dg_s (pc' := 22) [.ref x0] rfl (fun _ => rfl) rfl ?_
      refine dg_s (pc' := 23) [.ref x0, .ref x0] rfl (fun _ => rfl) rfl ?_
      refine dg_s (pc' := 26) [.int (m.1 x0 17), .ref x0] rfl (fun _ => rfl) rfl ?_
      refine dg_s (pc' := 27) [.int (1 : Int32), .int (m.1 x0 17), .ref x0] rfl (fun _ => rfl) rfl ?_
      refine dg_s (pc' := 28) [.int ((m.1 x0 17) + (1 : Int32)), .ref x0] rfl (fun _ => rfl) rfl ?_
      refine dg_m (pc' := 31) (dc_wi m x0 17 ((m.1 x0 17) + (1 : Int32))) [] rfl (fun _ => rfl) rfl ?_
      refine dw_s (pc' := 8) [] rfl (fun _ => rfl) ?_
      exact dw_j rfl (fun lv1 hv => ih (dc_wi m x0 17 ((m.1 x0 17) + (1 : Int32))) lv1 (hv.1 _ rfl))
noncomputable def d_X10_next (x0 : Nat) (m : dc_M) : Option dc_M :=
  (if (Int32.toInt (m.1 x0 15)) ≤ 0 then (d_X10_next_l8 x0 m) else some (m))
set_option maxHeartbeats 8000000 in
theorem k_X10_next {u : Nat} {N : Nat} {Φ : (Option dc_M) → Option Value → dc_M → Prop} (x0 : Nat) (m : dc_M) (kR : ∀  (m : dc_M), Φ (some (m)) (none) m)  {lv : ab_L} (f0 : ab_lk lv 0 = some (.ref x0)) : dc_pv u N ab_M_X10_next 0 lv [] m (Φ (d_X10_next x0 m)) := by
  refine dc_pv.mono (dc_ok (C := C_X10_next) (S := S_X10_next) CO_X10_next 400 0 [(0, .ref x0)] lv [] m (dc_sub_cons f0 (dc_sub_nil)) ?_) (Nat.le_succ N)
  unfold d_X10_next
  refine dg_s (pc' := 1) [.ref x0] rfl (fun _ => rfl) rfl ?_
  refine dg_s (pc' := 4) [.int (m.1 x0 15)] rfl (fun _ => rfl) rfl ?_
  refine dw_if (fun t => Φ t) ((Int32.toInt (m.1 x0 15)) ≤ 0) [] 8 7 rfl (fun _ => rfl) (fun c0 => ?_) (fun c0 => ?_)
  · exact dw_j rfl (fun lv1 hv => k_X10_next_l8 (Φ := (fun t => Φ t)) x0 (fun _b => kR _b) N   m lv1 (hv.1 _ rfl))
  · refine dw_g rfl ?_
    exact dw_r (some (.inl (none, m))) rfl (fun _ => rfl) (kR _)
noncomputable def H_X10_next : dc_H := fun As m k => match As with
  | [.ref x0] => (d_X10_next x0 m).bind (fun q => k (none) q)
  | _ => dc_kz
theorem H_X10_next_ok {u : Nat} : dc_cok u 152 H_X10_next := fun M' hG N As m k P hz hP => by
  obtain rfl : ab_M_X10_next = M' := Option.some.inj hG
  unfold H_X10_next at hP
  split at hP
  · rename_i x0
    exact dc_pv.imp (k_X10_next (Φ := fun (t : Option dc_M) r m' => P (t.bind (fun q => k (none) q)) → P (k r m')) x0 m (fun _ h => h) rfl) (fun r m' h => h hP)
  · exact absurd hP hz
def C_X10_isSign : List (Nat × dc_H) := []
theorem CO_X10_isSign {u : Nat} : dc_CO u C_X10_isSign := dc_CO_nil
def S_X10_isSign : List (Nat × List Nat) := []
def d_X10_isSign (x0 : Nat) (x1 : Int32) (m : dc_M) : Int32 :=
  (if ¬ (Int32.toInt (m.1 x0 19)) = 3 then (0 : Int32) else (if ¬ (Int32.toInt (m.1 x0 20)) = (Int32.toInt x1) then (0 : Int32) else (1 : Int32)))
set_option maxHeartbeats 8000000 in
theorem k_X10_isSign {u : Nat} {N : Nat} {Φ : Int32 → Option Value → dc_M → Prop} (x0 : Nat) (x1 : Int32) (m : dc_M) (kR : ∀ (v : Int32), Φ (v) (some (.int v)) m)  {lv : ab_L} (f0 : ab_lk lv 0 = some (.ref x0)) (f1 : ab_lk lv 1 = some (.int x1)) : dc_pv u N ab_M_X10_isSign 0 lv [] m (Φ (d_X10_isSign x0 x1 m)) := by
  refine dc_pv.mono (dc_ok (C := C_X10_isSign) (S := S_X10_isSign) CO_X10_isSign 400 0 [(0, .ref x0), (1, .int x1)] lv [] m (dc_sub_cons f0 (dc_sub_cons f1 (dc_sub_nil))) ?_) (Nat.le_succ N)
  unfold d_X10_isSign
  refine dg_s (pc' := 1) [.ref x0] rfl (fun _ => rfl) rfl ?_
  refine dg_s (pc' := 4) [.int (m.1 x0 19)] rfl (fun _ => rfl) rfl ?_
  refine dg_s (pc' := 5) [.int (3 : Int32), .int (m.1 x0 19)] rfl (fun _ => rfl) rfl ?_
  refine dw_if (fun t => Φ t) (¬ (Int32.toInt (m.1 x0 19)) = 3) [] 20 8 rfl (fun _ => rfl) (fun c0 => ?_) (fun c0 => ?_)
  · refine dw_g rfl ?_
    refine dg_s (pc' := 21) [.int (0 : Int32)] rfl (fun _ => rfl) rfl ?_
    exact dw_r (some (.inl (some (.int (0 : Int32)), m))) rfl (fun _ => rfl) (kR _)
  · refine dw_g rfl ?_
    refine dg_s (pc' := 9) [.ref x0] rfl (fun _ => rfl) rfl ?_
    refine dg_s (pc' := 12) [.int (m.1 x0 20)] rfl (fun _ => rfl) rfl ?_
    refine dg_s (pc' := 13) [.int x1, .int (m.1 x0 20)] rfl (fun _ => rfl) rfl ?_
    refine dw_if (fun t => Φ t) (¬ (Int32.toInt (m.1 x0 20)) = (Int32.toInt x1)) [] 20 16 rfl (fun _ => rfl) (fun c1 => ?_) (fun c1 => ?_)
    · refine dw_g rfl ?_
      refine dg_s (pc' := 21) [.int (0 : Int32)] rfl (fun _ => rfl) rfl ?_
      exact dw_r (some (.inl (some (.int (0 : Int32)), m))) rfl (fun _ => rfl) (kR _)
    · refine dw_g rfl ?_
      refine dg_s (pc' := 17) [.int (1 : Int32)] rfl (fun _ => rfl) rfl ?_
      refine dg_s (pc' := 21) [.int (1 : Int32)] rfl (fun _ => rfl) rfl ?_
      exact dw_r (some (.inl (some (.int (1 : Int32)), m))) rfl (fun _ => rfl) (kR _)
def H_X10_isSign : dc_H := fun As m k => match As with
  | [.ref x0, .int x1] => k (some (.int (d_X10_isSign x0 x1 m))) m
  | _ => dc_kz
theorem H_X10_isSign_ok {u : Nat} : dc_cok u 153 H_X10_isSign := fun M' hG N As m k P hz hP => by
  obtain rfl : ab_M_X10_isSign = M' := Option.some.inj hG
  unfold H_X10_isSign at hP
  split at hP
  · rename_i x0 x1
    exact dc_pv.imp (k_X10_isSign (Φ := fun (t : Int32) r m' => P (k (some (.int t)) m) → P (k r m')) x0 x1 m (fun _  h => h) rfl rfl) (fun r m' h => h hP)
  · exact absurd hP hz
def C_X10_isLetter : List (Nat × dc_H) := [(146, H_X10_in)]
theorem CO_X10_isLetter {u : Nat} : dc_CO u C_X10_isLetter := dc_CO_cons H_X10_in_ok (dc_CO_nil)
def S_X10_isLetter : List (Nat × List Nat) := []
def d_X10_isLetter (x0 : Nat) (m : dc_M) : Int32 :=
  (if ¬ (Int32.toInt (m.1 x0 19)) = 1 then (0 : Int32) else (if (Int32.toInt (d_X10_in (Int32.toInt64 (m.1 x0 20)) (1 : Int64) (26 : Int64) m)) = 0 then (0 : Int32) else (1 : Int32)))
set_option maxHeartbeats 8000000 in
theorem k_X10_isLetter {u : Nat} {N : Nat} {Φ : Int32 → Option Value → dc_M → Prop} (x0 : Nat) (m : dc_M) (kR : ∀ (v : Int32), Φ (v) (some (.int v)) m)  {lv : ab_L} (f0 : ab_lk lv 0 = some (.ref x0)) : dc_pv u N ab_M_X10_isLetter 0 lv [] m (Φ (d_X10_isLetter x0 m)) := by
  refine dc_pv.mono (dc_ok (C := C_X10_isLetter) (S := S_X10_isLetter) CO_X10_isLetter 400 0 [(0, .ref x0)] lv [] m (dc_sub_cons f0 (dc_sub_nil)) ?_) (Nat.le_succ N)
  unfold d_X10_isLetter
  refine dg_s (pc' := 1) [.ref x0] rfl (fun _ => rfl) rfl ?_
  refine dg_s (pc' := 4) [.int (m.1 x0 19)] rfl (fun _ => rfl) rfl ?_
  refine dg_s (pc' := 5) [.int (1 : Int32), .int (m.1 x0 19)] rfl (fun _ => rfl) rfl ?_
  refine dw_if (fun t => Φ t) (¬ (Int32.toInt (m.1 x0 19)) = 1) [] 27 8 rfl (fun _ => rfl) (fun c0 => ?_) (fun c0 => ?_)
  · refine dw_g rfl ?_
    refine dg_s (pc' := 28) [.int (0 : Int32)] rfl (fun _ => rfl) rfl ?_
    exact dw_r (some (.inl (some (.int (0 : Int32)), m))) rfl (fun _ => rfl) (kR _)
  · refine dw_g rfl ?_
    refine dg_s (pc' := 9) [.ref x0] rfl (fun _ => rfl) rfl ?_
    refine dg_s (pc' := 12) [.int (m.1 x0 20)] rfl (fun _ => rfl) rfl ?_
    refine dg_s (pc' := 13) [.long (Int32.toInt64 (m.1 x0 20))] rfl (fun _ => rfl) rfl ?_
    refine dg_s (pc' := 14) [.long (1 : Int64), .long (Int32.toInt64 (m.1 x0 20))] rfl (fun _ => rfl) rfl ?_
    refine dg_s (pc' := 17) [.long (26 : Int64), .long (1 : Int64), .long (Int32.toInt64 (m.1 x0 20))] rfl (fun _ => rfl) rfl ?_
    refine dg_s (pc' := 20) [.int (d_X10_in (Int32.toInt64 (m.1 x0 20)) (1 : Int64) (26 : Int64) m)] rfl (fun _ => rfl) rfl ?_
    refine dw_if (fun t => Φ t) ((Int32.toInt (d_X10_in (Int32.toInt64 (m.1 x0 20)) (1 : Int64) (26 : Int64) m)) = 0) [] 27 23 rfl (fun _ => rfl) (fun c1 => ?_) (fun c1 => ?_)
    · refine dw_g rfl ?_
      refine dg_s (pc' := 28) [.int (0 : Int32)] rfl (fun _ => rfl) rfl ?_
      exact dw_r (some (.inl (some (.int (0 : Int32)), m))) rfl (fun _ => rfl) (kR _)
    · refine dw_g rfl ?_
      refine dg_s (pc' := 24) [.int (1 : Int32)] rfl (fun _ => rfl) rfl ?_
      refine dg_s (pc' := 28) [.int (1 : Int32)] rfl (fun _ => rfl) rfl ?_
      exact dw_r (some (.inl (some (.int (1 : Int32)), m))) rfl (fun _ => rfl) (kR _)
def H_X10_isLetter : dc_H := fun As m k => match As with
  | [.ref x0] => k (some (.int (d_X10_isLetter x0 m))) m
  | _ => dc_kz
theorem H_X10_isLetter_ok {u : Nat} : dc_cok u 154 H_X10_isLetter := fun M' hG N As m k P hz hP => by
  obtain rfl : ab_M_X10_isLetter = M' := Option.some.inj hG
  unfold H_X10_isLetter at hP
  split at hP
  · rename_i x0
    exact dc_pv.imp (k_X10_isLetter (Φ := fun (t : Int32) r m' => P (k (some (.int t)) m) → P (k r m')) x0 m (fun _  h => h) rfl) (fun r m' h => h hP)
  · exact absurd hP hz
def C_X10_wireAt : List (Nat × dc_H) := []
theorem CO_X10_wireAt {u : Nat} : dc_CO u C_X10_wireAt := dc_CO_nil
def S_X10_wireAt : List (Nat × List Nat) := [(2, [0, 1, 2])]
noncomputable def d_X10_wireAt_l2b (x0 : Nat) (x1 : Int32) (x2 : Int32) (m : dc_M) : Option (Int32 ⊕ Int32) :=
  (if (Int32.toInt (m.1 x0 21)) ≤ (Int32.toInt x2) then some (Sum.inr ((-4 : Int32))) else (if ¬ (Int32.toInt (m.1 (x0 + 10) (Int32.toNatClampNeg x2))) = (Int32.toInt x1) then some (Sum.inl (x2 + (1 : Int32))) else some (Sum.inr (x2))))
noncomputable def d_X10_wireAt_l2s (x0 : Nat) (x1 : Int32) (m : dc_M) : Int32 → Option (Int32 ⊕ Int32) := fun s => d_X10_wireAt_l2b x0 x1 s m
noncomputable def d_X10_wireAt_l2 (x0 : Nat) (x1 : Int32) (x2 : Int32) (m : dc_M) : Option Int32 := dc_lp (d_X10_wireAt_l2s x0 x1 m) x2
set_option maxHeartbeats 8000000 in
theorem k_X10_wireAt_l2 {u : Nat} {Φ : (Option Int32) → Option Value → dc_M → Prop} (x0 : Nat) (x1 : Int32) (m : dc_M) (kR : ∀ (v : Int32), Φ (some (v)) (some (.int v)) m) : ∀ (N : Nat), ∀ (x2 : Int32) (lv : ab_L), ab_lk lv 0 = some (.ref x0) → ab_lk lv 1 = some (.int x1) → ab_lk lv 2 = some (.int x2) → dc_pv u N ab_M_X10_wireAt 2 lv [] m (Φ (d_X10_wireAt_l2 x0 x1 x2 m)) := by
  intro N
  induction N with
  | zero => intros; exact dc_pv_zero
  | succ N ih =>
    intro x2 lv f0 f1 f2
    refine dc_ok (C := C_X10_wireAt) (S := S_X10_wireAt) CO_X10_wireAt 400 2 [(0, .ref x0), (1, .int x1), (2, .int x2)] lv [] m (dc_sub_cons f0 (dc_sub_cons f1 (dc_sub_cons f2 (dc_sub_nil)))) ?_
    unfold d_X10_wireAt_l2
    rw [dc_lp_eq]
    show (fun t x => dc_lf u N ab_M_X10_wireAt (Φ (Option.bind t (dc_bk (d_X10_wireAt_l2s x0 x1 m)))) x) (d_X10_wireAt_l2b x0 x1 x2 m) _
    dsimp only
    unfold d_X10_wireAt_l2b
    refine dg_s (pc' := 3) [.int x2] rfl (fun _ => rfl) rfl ?_
    refine dg_s (pc' := 4) [.ref x0, .int x2] rfl (fun _ => rfl) rfl ?_
    refine dg_s (pc' := 7) [.int (m.1 x0 21), .int x2] rfl (fun _ => rfl) rfl ?_
    refine dw_if (fun t => Φ (Option.bind t (dc_bk (d_X10_wireAt_l2s x0 x1 m)))) ((Int32.toInt (m.1 x0 21)) ≤ (Int32.toInt x2)) [] 28 10 rfl (fun _ => rfl) (fun c0 => ?_) (fun c0 => ?_)
    · refine dw_g rfl ?_
      refine dg_s (pc' := 30) [.int (-4 : Int32)] rfl (fun _ => rfl) rfl ?_
      exact dw_r (some (.inl (some (.int (-4 : Int32)), m))) rfl (fun _ => rfl) (kR _)
    · refine dw_g rfl ?_
      refine dg_s (pc' := 11) [.ref x0] rfl (fun _ => rfl) rfl ?_
      refine dg_s (pc' := 14) [.ref (x0 + 10)] rfl (fun _ => rfl) rfl ?_
      refine dg_s (pc' := 15) [.int x2, .ref (x0 + 10)] rfl (fun _ => rfl) rfl ?_
      refine dg_s (pc' := 16) [.int (m.1 (x0 + 10) (Int32.toNatClampNeg x2))] rfl (fun _ => rfl) rfl ?_
      refine dg_s (pc' := 17) [.int x1, .int (m.1 (x0 + 10) (Int32.toNatClampNeg x2))] rfl (fun _ => rfl) rfl ?_
      refine dw_if (fun t => Φ (Option.bind t (dc_bk (d_X10_wireAt_l2s x0 x1 m)))) (¬ (Int32.toInt (m.1 (x0 + 10) (Int32.toNatClampNeg x2))) = (Int32.toInt x1)) [] 22 20 rfl (fun _ => rfl) (fun c1 => ?_) (fun c1 => ?_)
      · refine dw_g rfl ?_
        refine dg_L (pc' := 25) [(2, .int (x2 + (1 : Int32))), (0, .ref x0), (1, .int x1)] [] rfl (fun _ => rfl) rfl ?_
        refine dw_s (pc' := 2) [] rfl (fun _ => rfl) ?_
        exact dw_j rfl (fun lv1 hv => ih (x2 + (1 : Int32)) lv1 (hv.1 _ rfl) (hv.2.1 _ rfl) (hv.2.2.1 _ rfl))
      · refine dw_g rfl ?_
        refine dg_s (pc' := 21) [.int x2] rfl (fun _ => rfl) rfl ?_
        exact dw_r (some (.inl (some (.int x2), m))) rfl (fun _ => rfl) (kR _)
noncomputable def d_X10_wireAt (x0 : Nat) (x1 : Int32) (m : dc_M) : Option Int32 :=
  (d_X10_wireAt_l2 x0 x1 (0 : Int32) m)
set_option maxHeartbeats 8000000 in
theorem k_X10_wireAt {u : Nat} {N : Nat} {Φ : (Option Int32) → Option Value → dc_M → Prop} (x0 : Nat) (x1 : Int32) (m : dc_M) (kR : ∀ (v : Int32), Φ (some (v)) (some (.int v)) m)  {lv : ab_L} (f0 : ab_lk lv 0 = some (.ref x0)) (f1 : ab_lk lv 1 = some (.int x1)) : dc_pv u N ab_M_X10_wireAt 0 lv [] m (Φ (d_X10_wireAt x0 x1 m)) := by
  refine dc_pv.mono (dc_ok (C := C_X10_wireAt) (S := S_X10_wireAt) CO_X10_wireAt 400 0 [(0, .ref x0), (1, .int x1)] lv [] m (dc_sub_cons f0 (dc_sub_cons f1 (dc_sub_nil))) ?_) (Nat.le_succ N)
  unfold d_X10_wireAt
  refine dg_s (pc' := 1) [.int (0 : Int32)] rfl (fun _ => rfl) rfl ?_
  refine dw_L (pc' := 2) [(2, .int (0 : Int32)), (0, .ref x0), (1, .int x1)] [] rfl (fun _ => rfl) ?_
  exact dw_j rfl (fun lv1 hv => k_X10_wireAt_l2 (Φ := (fun t => Φ t)) x0 x1 m (fun _a  => kR _a) N  (0 : Int32) lv1 (hv.1 _ rfl) (hv.2.1 _ rfl) (hv.2.2.1 _ rfl))
noncomputable def H_X10_wireAt : dc_H := fun As m k => match As with
  | [.ref x0, .int x1] => (d_X10_wireAt x0 x1 m).bind (fun q => k (some (.int q)) m)
  | _ => dc_kz
theorem H_X10_wireAt_ok {u : Nat} : dc_cok u 155 H_X10_wireAt := fun M' hG N As m k P hz hP => by
  obtain rfl : ab_M_X10_wireAt = M' := Option.some.inj hG
  unfold H_X10_wireAt at hP
  split at hP
  · rename_i x0 x1
    exact dc_pv.imp (k_X10_wireAt (Φ := fun (t : Option Int32) r m' => P (t.bind (fun q => k (some (.int q)) m)) → P (k r m')) x0 x1 m (fun _  h => h) rfl rfl) (fun r m' h => h hP)
  · exact absurd hP hz
noncomputable def C_X10_readEvent : List (Nat × dc_H) := [(151, H_X10_fails), (150, H_X10_failsAt), (154, H_X10_isLetter), (153, H_X10_isSign), (152, H_X10_next), (155, H_X10_wireAt)]
theorem CO_X10_readEvent {u : Nat} : dc_CO u C_X10_readEvent := dc_CO_cons H_X10_fails_ok (dc_CO_cons H_X10_failsAt_ok (dc_CO_cons H_X10_isLetter_ok (dc_CO_cons H_X10_isSign_ok (dc_CO_cons H_X10_next_ok (dc_CO_cons H_X10_wireAt_ok (dc_CO_nil))))))
def S_X10_readEvent : List (Nat × List Nat) := [(24, [0, 1, 2]), (46, [0, 1, 2]), (65, [0, 1, 2, 3]), (99, [0, 1, 2, 3]), (113, [0, 1, 2, 3]), (162, [0, 1, 2, 3, 4]), (172, [0, 1, 2, 3, 4, 5]), (183, [0, 1, 2, 3, 4, 5, 6]), (233, [0, 1, 2, 3, 4, 5, 6]), (309, [0, 1, 2, 6]), (338, [0, 1, 2, 6, 7]), (350, [0, 1, 6, 7]), (368, [0, 1, 6, 7])]
noncomputable def d_X10_readEvent_b368 (x0 : Nat) (x1 : Int32) (x6 : Int32) (x7 : Int32) (s0 : Int32) (s1 : Int32) (s2 : Int32) (s3 : Nat) (m : dc_M) : Option dc_M :=
  (if (Int32.toInt x1) = 0 then some ((dc_wi (dc_wi m s3 (Int32.toNatClampNeg s2) (s1 ||| s0)) (x0 + 15) (Int32.toNatClampNeg x6) (((dc_wi m s3 (Int32.toNatClampNeg s2) (s1 ||| s0)).1 (x0 + 15) (Int32.toNatClampNeg x6)) ||| x7))) else some ((dc_wi (dc_wi m s3 (Int32.toNatClampNeg s2) (s1 ||| s0)) (x0 + 15) (Int32.toNatClampNeg x6) (((dc_wi m s3 (Int32.toNatClampNeg s2) (s1 ||| s0)).1 (x0 + 15) (Int32.toNatClampNeg x6)) ||| (0 : Int32)))))
set_option maxHeartbeats 8000000 in
theorem k_X10_readEvent_b368 {u : Nat} {N : Nat} {Φ : (Option dc_M) → Option Value → dc_M → Prop} (x0 : Nat) (x1 : Int32) (x6 : Int32) (x7 : Int32) (s0 : Int32) (s1 : Int32) (s2 : Int32) (s3 : Nat) (m : dc_M) (kR : ∀  (m : dc_M), Φ (some (m)) (none) m)  {lv : ab_L} (f0 : ab_lk lv 0 = some (.ref x0)) (f1 : ab_lk lv 1 = some (.int x1)) (f6 : ab_lk lv 6 = some (.int x6)) (f7 : ab_lk lv 7 = some (.int x7)) : dc_pv u N ab_M_X10_readEvent 368 lv [.int s0, .int s1, .int s2, .ref s3] m (Φ (d_X10_readEvent_b368 x0 x1 x6 x7 s0 s1 s2 s3 m)) := by
  refine dc_pv.mono (dc_ok (C := C_X10_readEvent) (S := S_X10_readEvent) CO_X10_readEvent 400 368 [(0, .ref x0), (1, .int x1), (6, .int x6), (7, .int x7)] lv [.int s0, .int s1, .int s2, .ref s3] m (dc_sub_cons f0 (dc_sub_cons f1 (dc_sub_cons f6 (dc_sub_cons f7 (dc_sub_nil))))) ?_) (Nat.le_succ N)
  unfold d_X10_readEvent_b368
  refine dg_s (pc' := 369) [.int (s1 ||| s0), .int s2, .ref s3] rfl (fun _ => rfl) rfl ?_
  refine dg_m (pc' := 370) (dc_wi m s3 (Int32.toNatClampNeg s2) (s1 ||| s0)) [] rfl (fun _ => rfl) rfl ?_
  refine dg_s (pc' := 371) [.ref x0] rfl (fun _ => rfl) rfl ?_
  refine dg_s (pc' := 374) [.ref (x0 + 15)] rfl (fun _ => rfl) rfl ?_
  refine dg_s (pc' := 376) [.int x6, .ref (x0 + 15)] rfl (fun _ => rfl) rfl ?_
  refine dg_s (pc' := 377) [.int x6, .ref (x0 + 15), .int x6, .ref (x0 + 15)] rfl (fun _ => rfl) rfl ?_
  refine dg_s (pc' := 378) [.int ((dc_wi m s3 (Int32.toNatClampNeg s2) (s1 ||| s0)).1 (x0 + 15) (Int32.toNatClampNeg x6)), .int x6, .ref (x0 + 15)] rfl (fun _ => rfl) rfl ?_
  refine dg_s (pc' := 379) [.int x1, .int ((dc_wi m s3 (Int32.toNatClampNeg s2) (s1 ||| s0)).1 (x0 + 15) (Int32.toNatClampNeg x6)), .int x6, .ref (x0 + 15)] rfl (fun _ => rfl) rfl ?_
  refine dw_if (fun t => Φ t) ((Int32.toInt x1) = 0) [.int ((dc_wi m s3 (Int32.toNatClampNeg s2) (s1 ||| s0)).1 (x0 + 15) (Int32.toNatClampNeg x6)), .int x6, .ref (x0 + 15)] 386 382 rfl (fun _ => rfl) (fun c0 => ?_) (fun c0 => ?_)
  · refine dw_g rfl ?_
    refine dg_s (pc' := 388) [.int x7, .int ((dc_wi m s3 (Int32.toNatClampNeg s2) (s1 ||| s0)).1 (x0 + 15) (Int32.toNatClampNeg x6)), .int x6, .ref (x0 + 15)] rfl (fun _ => rfl) rfl ?_
    refine dg_s (pc' := 389) [.int (((dc_wi m s3 (Int32.toNatClampNeg s2) (s1 ||| s0)).1 (x0 + 15) (Int32.toNatClampNeg x6)) ||| x7), .int x6, .ref (x0 + 15)] rfl (fun _ => rfl) rfl ?_
    refine dg_m (pc' := 390) (dc_wi (dc_wi m s3 (Int32.toNatClampNeg s2) (s1 ||| s0)) (x0 + 15) (Int32.toNatClampNeg x6) (((dc_wi m s3 (Int32.toNatClampNeg s2) (s1 ||| s0)).1 (x0 + 15) (Int32.toNatClampNeg x6)) ||| x7)) [] rfl (fun _ => rfl) rfl ?_
    exact dw_r (some (.inl (none, (dc_wi (dc_wi m s3 (Int32.toNatClampNeg s2) (s1 ||| s0)) (x0 + 15) (Int32.toNatClampNeg x6) (((dc_wi m s3 (Int32.toNatClampNeg s2) (s1 ||| s0)).1 (x0 + 15) (Int32.toNatClampNeg x6)) ||| x7))))) rfl (fun _ => rfl) (kR _)
  · refine dw_g rfl ?_
    refine dg_s (pc' := 383) [.int (0 : Int32), .int ((dc_wi m s3 (Int32.toNatClampNeg s2) (s1 ||| s0)).1 (x0 + 15) (Int32.toNatClampNeg x6)), .int x6, .ref (x0 + 15)] rfl (fun _ => rfl) rfl ?_
    refine dg_s (pc' := 388) [.int (0 : Int32), .int ((dc_wi m s3 (Int32.toNatClampNeg s2) (s1 ||| s0)).1 (x0 + 15) (Int32.toNatClampNeg x6)), .int x6, .ref (x0 + 15)] rfl (fun _ => rfl) rfl ?_
    refine dg_s (pc' := 389) [.int (((dc_wi m s3 (Int32.toNatClampNeg s2) (s1 ||| s0)).1 (x0 + 15) (Int32.toNatClampNeg x6)) ||| (0 : Int32)), .int x6, .ref (x0 + 15)] rfl (fun _ => rfl) rfl ?_
    refine dg_m (pc' := 390) (dc_wi (dc_wi m s3 (Int32.toNatClampNeg s2) (s1 ||| s0)) (x0 + 15) (Int32.toNatClampNeg x6) (((dc_wi m s3 (Int32.toNatClampNeg s2) (s1 ||| s0)).1 (x0 + 15) (Int32.toNatClampNeg x6)) ||| (0 : Int32))) [] rfl (fun _ => rfl) rfl ?_
    exact dw_r (some (.inl (none, (dc_wi (dc_wi m s3 (Int32.toNatClampNeg s2) (s1 ||| s0)) (x0 + 15) (Int32.toNatClampNeg x6) (((dc_wi m s3 (Int32.toNatClampNeg s2) (s1 ||| s0)).1 (x0 + 15) (Int32.toNatClampNeg x6)) ||| (0 : Int32)))))) rfl (fun _ => rfl) (kR _)
noncomputable def d_X10_readEvent_b350 (x0 : Nat) (x1 : Int32) (x6 : Int32) (x7 : Int32) (m : dc_M) : Option dc_M :=
  (if (Int32.toInt x1) = 0 then (d_X10_readEvent_b368 x0 x1 x6 x7 (0 : Int32) (m.1 (x0 + 16) (Int32.toNatClampNeg x6)) x6 (x0 + 16) m) else (d_X10_readEvent_b368 x0 x1 x6 x7 x7 (m.1 (x0 + 16) (Int32.toNatClampNeg x6)) x6 (x0 + 16) m))
set_option maxHeartbeats 8000000 in
theorem k_X10_readEvent_b350 {u : Nat} {N : Nat} {Φ : (Option dc_M) → Option Value → dc_M → Prop} (x0 : Nat) (x1 : Int32) (x6 : Int32) (x7 : Int32) (m : dc_M) (kR : ∀  (m : dc_M), Φ (some (m)) (none) m)  {lv : ab_L} (f0 : ab_lk lv 0 = some (.ref x0)) (f1 : ab_lk lv 1 = some (.int x1)) (f6 : ab_lk lv 6 = some (.int x6)) (f7 : ab_lk lv 7 = some (.int x7)) : dc_pv u N ab_M_X10_readEvent 350 lv [] m (Φ (d_X10_readEvent_b350 x0 x1 x6 x7 m)) := by
  refine dc_pv.mono (dc_ok (C := C_X10_readEvent) (S := S_X10_readEvent) CO_X10_readEvent 400 350 [(0, .ref x0), (1, .int x1), (6, .int x6), (7, .int x7)] lv [] m (dc_sub_cons f0 (dc_sub_cons f1 (dc_sub_cons f6 (dc_sub_cons f7 (dc_sub_nil))))) ?_) (Nat.le_succ N)
  unfold d_X10_readEvent_b350
  refine dg_s (pc' := 351) [.ref x0] rfl (fun _ => rfl) rfl ?_
  refine dg_s (pc' := 354) [.ref (x0 + 16)] rfl (fun _ => rfl) rfl ?_
  refine dg_s (pc' := 356) [.int x6, .ref (x0 + 16)] rfl (fun _ => rfl) rfl ?_
  refine dg_s (pc' := 357) [.int x6, .ref (x0 + 16), .int x6, .ref (x0 + 16)] rfl (fun _ => rfl) rfl ?_
  refine dg_s (pc' := 358) [.int (m.1 (x0 + 16) (Int32.toNatClampNeg x6)), .int x6, .ref (x0 + 16)] rfl (fun _ => rfl) rfl ?_
  refine dg_s (pc' := 359) [.int x1, .int (m.1 (x0 + 16) (Int32.toNatClampNeg x6)), .int x6, .ref (x0 + 16)] rfl (fun _ => rfl) rfl ?_
  refine dw_if (fun t => Φ t) ((Int32.toInt x1) = 0) [.int (m.1 (x0 + 16) (Int32.toNatClampNeg x6)), .int x6, .ref (x0 + 16)] 367 362 rfl (fun _ => rfl) (fun c0 => ?_) (fun c0 => ?_)
  · refine dw_g rfl ?_
    refine dw_s (pc' := 368) [.int (0 : Int32), .int (m.1 (x0 + 16) (Int32.toNatClampNeg x6)), .int x6, .ref (x0 + 16)] rfl (fun _ => rfl) ?_
    exact dw_j rfl (fun lv1 hv => k_X10_readEvent_b368 (Φ := (fun t => Φ t)) x0 x1 x6 x7 (0 : Int32) (m.1 (x0 + 16) (Int32.toNatClampNeg x6)) x6 (x0 + 16) m (fun _b => kR _b)  (hv.1 _ rfl) (hv.2.1 _ rfl) (hv.2.2.1 _ rfl) (hv.2.2.2.1 _ rfl))
  · refine dw_g rfl ?_
    refine dg_s (pc' := 364) [.int x7, .int (m.1 (x0 + 16) (Int32.toNatClampNeg x6)), .int x6, .ref (x0 + 16)] rfl (fun _ => rfl) rfl ?_
    refine dw_s (pc' := 368) [.int x7, .int (m.1 (x0 + 16) (Int32.toNatClampNeg x6)), .int x6, .ref (x0 + 16)] rfl (fun _ => rfl) ?_
    exact dw_j rfl (fun lv1 hv => k_X10_readEvent_b368 (Φ := (fun t => Φ t)) x0 x1 x6 x7 x7 (m.1 (x0 + 16) (Int32.toNatClampNeg x6)) x6 (x0 + 16) m (fun _b => kR _b)  (hv.1 _ rfl) (hv.2.1 _ rfl) (hv.2.2.1 _ rfl) (hv.2.2.2.1 _ rfl))
noncomputable def d_X10_readEvent_b338 (x0 : Nat) (x1 : Int32) (x2 : Int32) (x6 : Int32) (x7 : Int32) (s0 : Int32) (m : dc_M) : Option dc_M :=
  (if (Int32.toInt (s0 &&& x7)) = 0 then (d_X10_readEvent_b350 x0 x1 x6 x7 m) else (dc_let (d_X10_failsAt x0 (5 : Int32) x2 m) (fun q1 => (d_X10_readEvent_b350 x0 x1 x6 x7 q1))))
set_option maxHeartbeats 8000000 in
theorem k_X10_readEvent_b338 {u : Nat} {N : Nat} {Φ : (Option dc_M) → Option Value → dc_M → Prop} (x0 : Nat) (x1 : Int32) (x2 : Int32) (x6 : Int32) (x7 : Int32) (s0 : Int32) (m : dc_M) (kR : ∀  (m : dc_M), Φ (some (m)) (none) m)  {lv : ab_L} (f0 : ab_lk lv 0 = some (.ref x0)) (f1 : ab_lk lv 1 = some (.int x1)) (f2 : ab_lk lv 2 = some (.int x2)) (f6 : ab_lk lv 6 = some (.int x6)) (f7 : ab_lk lv 7 = some (.int x7)) : dc_pv u N ab_M_X10_readEvent 338 lv [.int s0] m (Φ (d_X10_readEvent_b338 x0 x1 x2 x6 x7 s0 m)) := by
  refine dc_pv.mono (dc_ok (C := C_X10_readEvent) (S := S_X10_readEvent) CO_X10_readEvent 400 338 [(0, .ref x0), (1, .int x1), (2, .int x2), (6, .int x6), (7, .int x7)] lv [.int s0] m (dc_sub_cons f0 (dc_sub_cons f1 (dc_sub_cons f2 (dc_sub_cons f6 (dc_sub_cons f7 (dc_sub_nil)))))) ?_) (Nat.le_succ N)
  unfold d_X10_readEvent_b338
  refine dg_s (pc' := 340) [.int x7, .int s0] rfl (fun _ => rfl) rfl ?_
  refine dg_s (pc' := 341) [.int (s0 &&& x7)] rfl (fun _ => rfl) rfl ?_
  refine dw_if (fun t => Φ t) ((Int32.toInt (s0 &&& x7)) = 0) [] 350 344 rfl (fun _ => rfl) (fun c0 => ?_) (fun c0 => ?_)
  · exact dw_j rfl (fun lv1 hv => k_X10_readEvent_b350 (Φ := (fun t => Φ t)) x0 x1 x6 x7 m (fun _b => kR _b)  (hv.1 _ rfl) (hv.2.1 _ rfl) (hv.2.2.1 _ rfl) (hv.2.2.2.1 _ rfl))
  · refine dw_g rfl ?_
    refine dg_s (pc' := 345) [.ref x0] rfl (fun _ => rfl) rfl ?_
    refine dg_s (pc' := 346) [.int (5 : Int32), .ref x0] rfl (fun _ => rfl) rfl ?_
    refine dg_s (pc' := 347) [.int x2, .int (5 : Int32), .ref x0] rfl (fun _ => rfl) rfl ?_
    refine dw_l (fun t => Φ t) (pc' := 350) (fun q1 => []) (fun q1 => q1) rfl (fun _ => rfl) (fun q1 => ?_)
    exact dw_j rfl (fun lv1 hv => k_X10_readEvent_b350 (Φ := (fun t => Φ t)) x0 x1 x6 x7 q1 (fun _b => kR _b)  (hv.1 _ rfl) (hv.2.1 _ rfl) (hv.2.2.1 _ rfl) (hv.2.2.2.1 _ rfl))
noncomputable def d_X10_readEvent_b309 (x0 : Nat) (x1 : Int32) (x2 : Int32) (x6 : Int32) (m : dc_M) : Option dc_M :=
  (if (Int32.toInt x1) = 0 then (d_X10_readEvent_b338 x0 x1 x2 x6 ((1 : Int32) <<< ((m.1 x0 30) &&& 31)) (m.1 (x0 + 15) (Int32.toNatClampNeg x6)) m) else (d_X10_readEvent_b338 x0 x1 x2 x6 ((1 : Int32) <<< ((m.1 x0 30) &&& 31)) (m.1 (x0 + 16) (Int32.toNatClampNeg x6)) m))
set_option maxHeartbeats 8000000 in
theorem k_X10_readEvent_b309 {u : Nat} {N : Nat} {Φ : (Option dc_M) → Option Value → dc_M → Prop} (x0 : Nat) (x1 : Int32) (x2 : Int32) (x6 : Int32) (m : dc_M) (kR : ∀  (m : dc_M), Φ (some (m)) (none) m)  {lv : ab_L} (f0 : ab_lk lv 0 = some (.ref x0)) (f1 : ab_lk lv 1 = some (.int x1)) (f2 : ab_lk lv 2 = some (.int x2)) (f6 : ab_lk lv 6 = some (.int x6)) : dc_pv u N ab_M_X10_readEvent 309 lv [] m (Φ (d_X10_readEvent_b309 x0 x1 x2 x6 m)) := by
  refine dc_pv.mono (dc_ok (C := C_X10_readEvent) (S := S_X10_readEvent) CO_X10_readEvent 400 309 [(0, .ref x0), (1, .int x1), (2, .int x2), (6, .int x6)] lv [] m (dc_sub_cons f0 (dc_sub_cons f1 (dc_sub_cons f2 (dc_sub_cons f6 (dc_sub_nil))))) ?_) (Nat.le_succ N)
  unfold d_X10_readEvent_b309
  refine dg_s (pc' := 310) [.int (1 : Int32)] rfl (fun _ => rfl) rfl ?_
  refine dg_s (pc' := 311) [.ref x0, .int (1 : Int32)] rfl (fun _ => rfl) rfl ?_
  refine dg_s (pc' := 314) [.int (m.1 x0 30), .int (1 : Int32)] rfl (fun _ => rfl) rfl ?_
  refine dg_s (pc' := 315) [.int ((1 : Int32) <<< ((m.1 x0 30) &&& 31))] rfl (fun _ => rfl) rfl ?_
  refine dg_L (pc' := 317) [(7, .int ((1 : Int32) <<< ((m.1 x0 30) &&& 31))), (0, .ref x0), (1, .int x1), (2, .int x2), (6, .int x6)] [] rfl (fun _ => rfl) rfl ?_
  refine dg_s (pc' := 318) [.int x1] rfl (fun _ => rfl) rfl ?_
  refine dw_if (fun t => Φ t) ((Int32.toInt x1) = 0) [] 331 321 rfl (fun _ => rfl) (fun c0 => ?_) (fun c0 => ?_)
  · refine dw_g rfl ?_
    refine dg_s (pc' := 332) [.ref x0] rfl (fun _ => rfl) rfl ?_
    refine dg_s (pc' := 335) [.ref (x0 + 15)] rfl (fun _ => rfl) rfl ?_
    refine dg_s (pc' := 337) [.int x6, .ref (x0 + 15)] rfl (fun _ => rfl) rfl ?_
    refine dw_s (pc' := 338) [.int (m.1 (x0 + 15) (Int32.toNatClampNeg x6))] rfl (fun _ => rfl) ?_
    exact dw_j rfl (fun lv1 hv => k_X10_readEvent_b338 (Φ := (fun t => Φ t)) x0 x1 x2 x6 ((1 : Int32) <<< ((m.1 x0 30) &&& 31)) (m.1 (x0 + 15) (Int32.toNatClampNeg x6)) m (fun _b => kR _b)  (hv.1 _ rfl) (hv.2.1 _ rfl) (hv.2.2.1 _ rfl) (hv.2.2.2.1 _ rfl) (hv.2.2.2.2.1 _ rfl))
  · refine dw_g rfl ?_
    refine dg_s (pc' := 322) [.ref x0] rfl (fun _ => rfl) rfl ?_
    refine dg_s (pc' := 325) [.ref (x0 + 16)] rfl (fun _ => rfl) rfl ?_
    refine dg_s (pc' := 327) [.int x6, .ref (x0 + 16)] rfl (fun _ => rfl) rfl ?_
    refine dg_s (pc' := 328) [.int (m.1 (x0 + 16) (Int32.toNatClampNeg x6))] rfl (fun _ => rfl) rfl ?_
    refine dw_s (pc' := 338) [.int (m.1 (x0 + 16) (Int32.toNatClampNeg x6))] rfl (fun _ => rfl) ?_
    exact dw_j rfl (fun lv1 hv => k_X10_readEvent_b338 (Φ := (fun t => Φ t)) x0 x1 x2 x6 ((1 : Int32) <<< ((m.1 x0 30) &&& 31)) (m.1 (x0 + 16) (Int32.toNatClampNeg x6)) m (fun _b => kR _b)  (hv.1 _ rfl) (hv.2.1 _ rfl) (hv.2.2.1 _ rfl) (hv.2.2.2.1 _ rfl) (hv.2.2.2.2.1 _ rfl))
noncomputable def d_X10_readEvent_b233 (x0 : Nat) (x1 : Int32) (x2 : Int32) (x3 : Int32) (x4 : Int32) (x5 : Int32) (x6 : Int32) (m : dc_M) : Option dc_M :=
  (if ¬ (Int32.toInt x6) = 16 then (if ¬ (Int32.toInt x6) = (Int32.toInt (m.1 x0 24)) then (d_X10_readEvent_b309 x0 x1 x2 x6 m) else (d_X10_readEvent_b309 x0 x1 x2 x6 (dc_wi (dc_wi (dc_wi (dc_wi (dc_wi (dc_wi m (x0 + 12) (Int32.toNatClampNeg x6) x3) (x0 + 13) (Int32.toNatClampNeg x6) x4) (x0 + 14) (Int32.toNatClampNeg x6) x5) (x0 + 15) (Int32.toNatClampNeg x6) (0 : Int32)) (x0 + 16) (Int32.toNatClampNeg x6) (0 : Int32)) x0 24 (((dc_wi (dc_wi (dc_wi (dc_wi (dc_wi m (x0 + 12) (Int32.toNatClampNeg x6) x3) (x0 + 13) (Int32.toNatClampNeg x6) x4) (x0 + 14) (Int32.toNatClampNeg x6) x5) (x0 + 15) (Int32.toNatClampNeg x6) (0 : Int32)) (x0 + 16) (Int32.toNatClampNeg x6) (0 : Int32)).1 x0 24) + (1 : Int32))))) else (dc_let (d_X10_failsAt x0 (6 : Int32) x2 m) (fun q1 => some (q1))))
set_option maxHeartbeats 8000000 in
theorem k_X10_readEvent_b233 {u : Nat} {N : Nat} {Φ : (Option dc_M) → Option Value → dc_M → Prop} (x0 : Nat) (x1 : Int32) (x2 : Int32) (x3 : Int32) (x4 : Int32) (x5 : Int32) (x6 : Int32) (m : dc_M) (kR : ∀  (m : dc_M), Φ (some (m)) (none) m)  {lv : ab_L} (f0 : ab_lk lv 0 = some (.ref x0)) (f1 : ab_lk lv 1 = some (.int x1)) (f2 : ab_lk lv 2 = some (.int x2)) (f3 : ab_lk lv 3 = some (.int x3)) (f4 : ab_lk lv 4 = some (.int x4)) (f5 : ab_lk lv 5 = some (.int x5)) (f6 : ab_lk lv 6 = some (.int x6)) : dc_pv u N ab_M_X10_readEvent 233 lv [] m (Φ (d_X10_readEvent_b233 x0 x1 x2 x3 x4 x5 x6 m)) := by
  refine dc_pv.mono (dc_ok (C := C_X10_readEvent) (S := S_X10_readEvent) CO_X10_readEvent 400 233 [(0, .ref x0), (1, .int x1), (2, .int x2), (3, .int x3), (4, .int x4), (5, .int x5), (6, .int x6)] lv [] m (dc_sub_cons f0 (dc_sub_cons f1 (dc_sub_cons f2 (dc_sub_cons f3 (dc_sub_cons f4 (dc_sub_cons f5 (dc_sub_cons f6 (dc_sub_nil)))))))) ?_) (Nat.le_succ N)
  unfold d_X10_readEvent_b233
  refine dg_s (pc' := 235) [.int x6] rfl (fun _ => rfl) rfl ?_
  refine dg_s (pc' := 237) [.int (16 : Int32), .int x6] rfl (fun _ => rfl) rfl ?_
  refine dw_if (fun t => Φ t) (¬ (Int32.toInt x6) = 16) [] 248 240 rfl (fun _ => rfl) (fun c0 => ?_) (fun c0 => ?_)
  · refine dw_g rfl ?_
    refine dg_s (pc' := 250) [.int x6] rfl (fun _ => rfl) rfl ?_
    refine dg_s (pc' := 251) [.ref x0, .int x6] rfl (fun _ => rfl) rfl ?_
    refine dg_s (pc' := 254) [.int (m.1 x0 24), .int x6] rfl (fun _ => rfl) rfl ?_
    refine dw_if (fun t => Φ t) (¬ (Int32.toInt x6) = (Int32.toInt (m.1 x0 24))) [] 309 257 rfl (fun _ => rfl) (fun c1 => ?_) (fun c1 => ?_)
    · exact dw_j rfl (fun lv1 hv => k_X10_readEvent_b309 (Φ := (fun t => Φ t)) x0 x1 x2 x6 m (fun _b => kR _b)  (hv.1 _ rfl) (hv.2.1 _ rfl) (hv.2.2.1 _ rfl) (hv.2.2.2.1 _ rfl))
    · refine dw_g rfl ?_
      refine dg_s (pc' := 258) [.ref x0] rfl (fun _ => rfl) rfl ?_
      refine dg_s (pc' := 261) [.ref (x0 + 12)] rfl (fun _ => rfl) rfl ?_
      refine dg_s (pc' := 263) [.int x6, .ref (x0 + 12)] rfl (fun _ => rfl) rfl ?_
      refine dg_s (pc' := 264) [.int x3, .int x6, .ref (x0 + 12)] rfl (fun _ => rfl) rfl ?_
      refine dg_m (pc' := 265) (dc_wi m (x0 + 12) (Int32.toNatClampNeg x6) x3) [] rfl (fun _ => rfl) rfl ?_
      refine dg_s (pc' := 266) [.ref x0] rfl (fun _ => rfl) rfl ?_
      refine dg_s (pc' := 269) [.ref (x0 + 13)] rfl (fun _ => rfl) rfl ?_
      refine dg_s (pc' := 271) [.int x6, .ref (x0 + 13)] rfl (fun _ => rfl) rfl ?_
      refine dg_s (pc' := 273) [.int x4, .int x6, .ref (x0 + 13)] rfl (fun _ => rfl) rfl ?_
      refine dg_m (pc' := 274) (dc_wi (dc_wi m (x0 + 12) (Int32.toNatClampNeg x6) x3) (x0 + 13) (Int32.toNatClampNeg x6) x4) [] rfl (fun _ => rfl) rfl ?_
      refine dg_s (pc' := 275) [.ref x0] rfl (fun _ => rfl) rfl ?_
      refine dg_s (pc' := 278) [.ref (x0 + 14)] rfl (fun _ => rfl) rfl ?_
      refine dg_s (pc' := 280) [.int x6, .ref (x0 + 14)] rfl (fun _ => rfl) rfl ?_
      refine dg_s (pc' := 282) [.int x5, .int x6, .ref (x0 + 14)] rfl (fun _ => rfl) rfl ?_
      refine dg_m (pc' := 283) (dc_wi (dc_wi (dc_wi m (x0 + 12) (Int32.toNatClampNeg x6) x3) (x0 + 13) (Int32.toNatClampNeg x6) x4) (x0 + 14) (Int32.toNatClampNeg x6) x5) [] rfl (fun _ => rfl) rfl ?_
      refine dg_s (pc' := 284) [.ref x0] rfl (fun _ => rfl) rfl ?_
      refine dg_s (pc' := 287) [.ref (x0 + 15)] rfl (fun _ => rfl) rfl ?_
      refine dg_s (pc' := 289) [.int x6, .ref (x0 + 15)] rfl (fun _ => rfl) rfl ?_
      refine dg_s (pc' := 290) [.int (0 : Int32), .int x6, .ref (x0 + 15)] rfl (fun _ => rfl) rfl ?_
      refine dg_m (pc' := 291) (dc_wi (dc_wi (dc_wi (dc_wi m (x0 + 12) (Int32.toNatClampNeg x6) x3) (x0 + 13) (Int32.toNatClampNeg x6) x4) (x0 + 14) (Int32.toNatClampNeg x6) x5) (x0 + 15) (Int32.toNatClampNeg x6) (0 : Int32)) [] rfl (fun _ => rfl) rfl ?_
      refine dg_s (pc' := 292) [.ref x0] rfl (fun _ => rfl) rfl ?_
      refine dg_s (pc' := 295) [.ref (x0 + 16)] rfl (fun _ => rfl) rfl ?_
      refine dg_s (pc' := 297) [.int x6, .ref (x0 + 16)] rfl (fun _ => rfl) rfl ?_
      refine dg_s (pc' := 298) [.int (0 : Int32), .int x6, .ref (x0 + 16)] rfl (fun _ => rfl) rfl ?_
      refine dg_m (pc' := 299) (dc_wi (dc_wi (dc_wi (dc_wi (dc_wi m (x0 + 12) (Int32.toNatClampNeg x6) x3) (x0 + 13) (Int32.toNatClampNeg x6) x4) (x0 + 14) (Int32.toNatClampNeg x6) x5) (x0 + 15) (Int32.toNatClampNeg x6) (0 : Int32)) (x0 + 16) (Int32.toNatClampNeg x6) (0 : Int32)) [] rfl (fun _ => rfl) rfl ?_
      refine dg_s (pc' := 300) [.ref x0] rfl (fun _ => rfl) rfl ?_
      refine dg_s (pc' := 301) [.ref x0, .ref x0] rfl (fun _ => rfl) rfl ?_
      refine dg_s (pc' := 304) [.int ((dc_wi (dc_wi (dc_wi (dc_wi (dc_wi m (x0 + 12) (Int32.toNatClampNeg x6) x3) (x0 + 13) (Int32.toNatClampNeg x6) x4) (x0 + 14) (Int32.toNatClampNeg x6) x5) (x0 + 15) (Int32.toNatClampNeg x6) (0 : Int32)) (x0 + 16) (Int32.toNatClampNeg x6) (0 : Int32)).1 x0 24), .ref x0] rfl (fun _ => rfl) rfl ?_
      refine dg_s (pc' := 305) [.int (1 : Int32), .int ((dc_wi (dc_wi (dc_wi (dc_wi (dc_wi m (x0 + 12) (Int32.toNatClampNeg x6) x3) (x0 + 13) (Int32.toNatClampNeg x6) x4) (x0 + 14) (Int32.toNatClampNeg x6) x5) (x0 + 15) (Int32.toNatClampNeg x6) (0 : Int32)) (x0 + 16) (Int32.toNatClampNeg x6) (0 : Int32)).1 x0 24), .ref x0] rfl (fun _ => rfl) rfl ?_
      refine dg_s (pc' := 306) [.int (((dc_wi (dc_wi (dc_wi (dc_wi (dc_wi m (x0 + 12) (Int32.toNatClampNeg x6) x3) (x0 + 13) (Int32.toNatClampNeg x6) x4) (x0 + 14) (Int32.toNatClampNeg x6) x5) (x0 + 15) (Int32.toNatClampNeg x6) (0 : Int32)) (x0 + 16) (Int32.toNatClampNeg x6) (0 : Int32)).1 x0 24) + (1 : Int32)), .ref x0] rfl (fun _ => rfl) rfl ?_
      refine dw_m (pc' := 309) (dc_wi (dc_wi (dc_wi (dc_wi (dc_wi (dc_wi m (x0 + 12) (Int32.toNatClampNeg x6) x3) (x0 + 13) (Int32.toNatClampNeg x6) x4) (x0 + 14) (Int32.toNatClampNeg x6) x5) (x0 + 15) (Int32.toNatClampNeg x6) (0 : Int32)) (x0 + 16) (Int32.toNatClampNeg x6) (0 : Int32)) x0 24 (((dc_wi (dc_wi (dc_wi (dc_wi (dc_wi m (x0 + 12) (Int32.toNatClampNeg x6) x3) (x0 + 13) (Int32.toNatClampNeg x6) x4) (x0 + 14) (Int32.toNatClampNeg x6) x5) (x0 + 15) (Int32.toNatClampNeg x6) (0 : Int32)) (x0 + 16) (Int32.toNatClampNeg x6) (0 : Int32)).1 x0 24) + (1 : Int32))) [] rfl (fun _ => rfl) ?_
      exact dw_j rfl (fun lv1 hv => k_X10_readEvent_b309 (Φ := (fun t => Φ t)) x0 x1 x2 x6 (dc_wi (dc_wi (dc_wi (dc_wi (dc_wi (dc_wi m (x0 + 12) (Int32.toNatClampNeg x6) x3) (x0 + 13) (Int32.toNatClampNeg x6) x4) (x0 + 14) (Int32.toNatClampNeg x6) x5) (x0 + 15) (Int32.toNatClampNeg x6) (0 : Int32)) (x0 + 16) (Int32.toNatClampNeg x6) (0 : Int32)) x0 24 (((dc_wi (dc_wi (dc_wi (dc_wi (dc_wi m (x0 + 12) (Int32.toNatClampNeg x6) x3) (x0 + 13) (Int32.toNatClampNeg x6) x4) (x0 + 14) (Int32.toNatClampNeg x6) x5) (x0 + 15) (Int32.toNatClampNeg x6) (0 : Int32)) (x0 + 16) (Int32.toNatClampNeg x6) (0 : Int32)).1 x0 24) + (1 : Int32))) (fun _b => kR _b)  (hv.1 _ rfl) (hv.2.1 _ rfl) (hv.2.2.1 _ rfl) (hv.2.2.2.1 _ rfl))
  · refine dw_g rfl ?_
    refine dg_s (pc' := 241) [.ref x0] rfl (fun _ => rfl) rfl ?_
    refine dg_s (pc' := 243) [.int (6 : Int32), .ref x0] rfl (fun _ => rfl) rfl ?_
    refine dg_s (pc' := 244) [.int x2, .int (6 : Int32), .ref x0] rfl (fun _ => rfl) rfl ?_
    refine dw_l (fun t => Φ t) (pc' := 247) (fun q1 => []) (fun q1 => q1) rfl (fun _ => rfl) (fun q1 => ?_)
    refine dw_g rfl ?_
    exact dw_r (some (.inl (none, q1))) rfl (fun _ => rfl) (kR _)
noncomputable def d_X10_readEvent_l183b (x0 : Nat) (x1 : Int32) (x2 : Int32) (x3 : Int32) (x4 : Int32) (x5 : Int32) (x6 : Int32) (m : dc_M) : Option (Int32 ⊕ dc_M) :=
  (if (Int32.toInt (m.1 x0 24)) ≤ (Int32.toInt x6) then ((d_X10_readEvent_b233 x0 x1 x2 x3 x4 x5 x6 m).map (fun z => Sum.inr (z))) else (if ¬ (Int32.toInt (m.1 (x0 + 12) (Int32.toNatClampNeg x6))) = (Int32.toInt x3) then some (Sum.inl (x6 + (1 : Int32))) else (if ¬ (Int32.toInt (m.1 (x0 + 13) (Int32.toNatClampNeg x6))) = (Int32.toInt x4) then some (Sum.inl (x6 + (1 : Int32))) else (if (Int32.toInt (m.1 (x0 + 14) (Int32.toNatClampNeg x6))) = (Int32.toInt x5) then ((d_X10_readEvent_b233 x0 x1 x2 x3 x4 x5 x6 m).map (fun z => Sum.inr (z))) else some (Sum.inl (x6 + (1 : Int32)))))))
noncomputable def d_X10_readEvent_l183s (x0 : Nat) (x1 : Int32) (x2 : Int32) (x3 : Int32) (x4 : Int32) (x5 : Int32) (m : dc_M) : Int32 → Option (Int32 ⊕ dc_M) := fun s => d_X10_readEvent_l183b x0 x1 x2 x3 x4 x5 s m
noncomputable def d_X10_readEvent_l183 (x0 : Nat) (x1 : Int32) (x2 : Int32) (x3 : Int32) (x4 : Int32) (x5 : Int32) (x6 : Int32) (m : dc_M) : Option dc_M := dc_lp (d_X10_readEvent_l183s x0 x1 x2 x3 x4 x5 m) x6
set_option maxHeartbeats 8000000 in
theorem k_X10_readEvent_l183 {u : Nat} {Φ : (Option dc_M) → Option Value → dc_M → Prop} (x0 : Nat) (x1 : Int32) (x2 : Int32) (x3 : Int32) (x4 : Int32) (x5 : Int32) (m : dc_M) (kR : ∀  (m : dc_M), Φ (some (m)) (none) m) : ∀ (N : Nat), ∀ (x6 : Int32) (lv : ab_L), ab_lk lv 0 = some (.ref x0) → ab_lk lv 1 = some (.int x1) → ab_lk lv 2 = some (.int x2) → ab_lk lv 3 = some (.int x3) → ab_lk lv 4 = some (.int x4) → ab_lk lv 5 = some (.int x5) → ab_lk lv 6 = some (.int x6) → dc_pv u N ab_M_X10_readEvent 183 lv [] m (Φ (d_X10_readEvent_l183 x0 x1 x2 x3 x4 x5 x6 m)) := by
  intro N
  induction N with
  | zero => intros; exact dc_pv_zero
  | succ N ih =>
    intro x6 lv f0 f1 f2 f3 f4 f5 f6
    refine dc_ok (C := C_X10_readEvent) (S := S_X10_readEvent) CO_X10_readEvent 400 183 [(0, .ref x0), (1, .int x1), (2, .int x2), (3, .int x3), (4, .int x4), (5, .int x5), (6, .int x6)] lv [] m (dc_sub_cons f0 (dc_sub_cons f1 (dc_sub_cons f2 (dc_sub_cons f3 (dc_sub_cons f4 (dc_sub_cons f5 (dc_sub_cons f6 (dc_sub_nil)))))))) ?_
    unfold d_X10_readEvent_l183
    rw [dc_lp_eq]
    show (fun t x => dc_lf u N ab_M_X10_readEvent (Φ (Option.bind t (dc_bk (d_X10_readEvent_l183s x0 x1 x2 x3 x4 x5 m)))) x) (d_X10_readEvent_l183b x0 x1 x2 x3 x4 x5 x6 m) _
    dsimp only
    unfold d_X10_readEvent_l183b
    refine dg_s (pc' := 185) [.int x6] rfl (fun _ => rfl) rfl ?_
    refine dg_s (pc' := 186) [.ref x0, .int x6] rfl (fun _ => rfl) rfl ?_
    refine dg_s (pc' := 189) [.int (m.1 x0 24), .int x6] rfl (fun _ => rfl) rfl ?_
    refine dw_if (fun t => Φ (Option.bind t (dc_bk (d_X10_readEvent_l183s x0 x1 x2 x3 x4 x5 m)))) ((Int32.toInt (m.1 x0 24)) ≤ (Int32.toInt x6)) [] 233 192 rfl (fun _ => rfl) (fun c0 => ?_) (fun c0 => ?_)
    · exact dw_j rfl (fun lv1 hv => k_X10_readEvent_b233 (Φ := (fun t => Φ (Option.bind (t.map (fun z => Sum.inr (z))) (dc_bk (d_X10_readEvent_l183s x0 x1 x2 x3 x4 x5 m))))) x0 x1 x2 x3 x4 x5 x6 m (fun _b => kR _b)  (hv.1 _ rfl) (hv.2.1 _ rfl) (hv.2.2.1 _ rfl) (hv.2.2.2.1 _ rfl) (hv.2.2.2.2.1 _ rfl) (hv.2.2.2.2.2.1 _ rfl) (hv.2.2.2.2.2.2.1 _ rfl))
    · refine dw_g rfl ?_
      refine dg_s (pc' := 193) [.ref x0] rfl (fun _ => rfl) rfl ?_
      refine dg_s (pc' := 196) [.ref (x0 + 12)] rfl (fun _ => rfl) rfl ?_
      refine dg_s (pc' := 198) [.int x6, .ref (x0 + 12)] rfl (fun _ => rfl) rfl ?_
      refine dg_s (pc' := 199) [.int (m.1 (x0 + 12) (Int32.toNatClampNeg x6))] rfl (fun _ => rfl) rfl ?_
      refine dg_s (pc' := 200) [.int x3, .int (m.1 (x0 + 12) (Int32.toNatClampNeg x6))] rfl (fun _ => rfl) rfl ?_
      refine dw_if (fun t => Φ (Option.bind t (dc_bk (d_X10_readEvent_l183s x0 x1 x2 x3 x4 x5 m)))) (¬ (Int32.toInt (m.1 (x0 + 12) (Int32.toNatClampNeg x6))) = (Int32.toInt x3)) [] 227 203 rfl (fun _ => rfl) (fun c1 => ?_) (fun c1 => ?_)
      · refine dw_g rfl ?_
        refine dg_L (pc' := 230) [(6, .int (x6 + (1 : Int32))), (0, .ref x0), (1, .int x1), (2, .int x2), (3, .int x3), (4, .int x4), (5, .int x5)] [] rfl (fun _ => rfl) rfl ?_
        refine dw_s (pc' := 183) [] rfl (fun _ => rfl) ?_
        exact dw_j rfl (fun lv1 hv => ih (x6 + (1 : Int32)) lv1 (hv.1 _ rfl) (hv.2.1 _ rfl) (hv.2.2.1 _ rfl) (hv.2.2.2.1 _ rfl) (hv.2.2.2.2.1 _ rfl) (hv.2.2.2.2.2.1 _ rfl) (hv.2.2.2.2.2.2.1 _ rfl))
      · refine dw_g rfl ?_
        refine dg_s (pc' := 204) [.ref x0] rfl (fun _ => rfl) rfl ?_
        refine dg_s (pc' := 207) [.ref (x0 + 13)] rfl (fun _ => rfl) rfl ?_
        refine dg_s (pc' := 209) [.int x6, .ref (x0 + 13)] rfl (fun _ => rfl) rfl ?_
        refine dg_s (pc' := 210) [.int (m.1 (x0 + 13) (Int32.toNatClampNeg x6))] rfl (fun _ => rfl) rfl ?_
        refine dg_s (pc' := 212) [.int x4, .int (m.1 (x0 + 13) (Int32.toNatClampNeg x6))] rfl (fun _ => rfl) rfl ?_
        refine dw_if (fun t => Φ (Option.bind t (dc_bk (d_X10_readEvent_l183s x0 x1 x2 x3 x4 x5 m)))) (¬ (Int32.toInt (m.1 (x0 + 13) (Int32.toNatClampNeg x6))) = (Int32.toInt x4)) [] 227 215 rfl (fun _ => rfl) (fun c2 => ?_) (fun c2 => ?_)
        · refine dw_g rfl ?_
          refine dg_L (pc' := 230) [(6, .int (x6 + (1 : Int32))), (0, .ref x0), (1, .int x1), (2, .int x2), (3, .int x3), (4, .int x4), (5, .int x5)] [] rfl (fun _ => rfl) rfl ?_
          refine dw_s (pc' := 183) [] rfl (fun _ => rfl) ?_
          exact dw_j rfl (fun lv1 hv => ih (x6 + (1 : Int32)) lv1 (hv.1 _ rfl) (hv.2.1 _ rfl) (hv.2.2.1 _ rfl) (hv.2.2.2.1 _ rfl) (hv.2.2.2.2.1 _ rfl) (hv.2.2.2.2.2.1 _ rfl) (hv.2.2.2.2.2.2.1 _ rfl))
        · refine dw_g rfl ?_
          refine dg_s (pc' := 216) [.ref x0] rfl (fun _ => rfl) rfl ?_
          refine dg_s (pc' := 219) [.ref (x0 + 14)] rfl (fun _ => rfl) rfl ?_
          refine dg_s (pc' := 221) [.int x6, .ref (x0 + 14)] rfl (fun _ => rfl) rfl ?_
          refine dg_s (pc' := 222) [.int (m.1 (x0 + 14) (Int32.toNatClampNeg x6))] rfl (fun _ => rfl) rfl ?_
          refine dg_s (pc' := 224) [.int x5, .int (m.1 (x0 + 14) (Int32.toNatClampNeg x6))] rfl (fun _ => rfl) rfl ?_
          refine dw_if (fun t => Φ (Option.bind t (dc_bk (d_X10_readEvent_l183s x0 x1 x2 x3 x4 x5 m)))) ((Int32.toInt (m.1 (x0 + 14) (Int32.toNatClampNeg x6))) = (Int32.toInt x5)) [] 233 227 rfl (fun _ => rfl) (fun c3 => ?_) (fun c3 => ?_)
          · exact dw_j rfl (fun lv1 hv => k_X10_readEvent_b233 (Φ := (fun t => Φ (Option.bind (t.map (fun z => Sum.inr (z))) (dc_bk (d_X10_readEvent_l183s x0 x1 x2 x3 x4 x5 m))))) x0 x1 x2 x3 x4 x5 x6 m (fun _b => kR _b)  (hv.1 _ rfl) (hv.2.1 _ rfl) (hv.2.2.1 _ rfl) (hv.2.2.2.1 _ rfl) (hv.2.2.2.2.1 _ rfl) (hv.2.2.2.2.2.1 _ rfl) (hv.2.2.2.2.2.2.1 _ rfl))
          · refine dw_g rfl ?_
            refine dg_L (pc' := 230) [(6, .int (x6 + (1 : Int32))), (0, .ref x0), (1, .int x1), (2, .int x2), (3, .int x3), (4, .int x4), (5, .int x5)] [] rfl (fun _ => rfl) rfl ?_
            refine dw_s (pc' := 183) [] rfl (fun _ => rfl) ?_
            exact dw_j rfl (fun lv1 hv => ih (x6 + (1 : Int32)) lv1 (hv.1 _ rfl) (hv.2.1 _ rfl) (hv.2.2.1 _ rfl) (hv.2.2.2.1 _ rfl) (hv.2.2.2.2.1 _ rfl) (hv.2.2.2.2.2.1 _ rfl) (hv.2.2.2.2.2.2.1 _ rfl))
noncomputable def d_X10_readEvent_b172 (x0 : Nat) (x1 : Int32) (x2 : Int32) (x3 : Int32) (x4 : Int32) (x5 : Int32) (m : dc_M) : Option dc_M :=
  (if (Int32.toInt (m.1 x0 15)) ≤ 0 then (d_X10_readEvent_l183 x0 x1 x2 x3 x4 x5 (0 : Int32) m) else some (m))
set_option maxHeartbeats 8000000 in
theorem k_X10_readEvent_b172 {u : Nat} {N : Nat} {Φ : (Option dc_M) → Option Value → dc_M → Prop} (x0 : Nat) (x1 : Int32) (x2 : Int32) (x3 : Int32) (x4 : Int32) (x5 : Int32) (m : dc_M) (kR : ∀  (m : dc_M), Φ (some (m)) (none) m)  {lv : ab_L} (f0 : ab_lk lv 0 = some (.ref x0)) (f1 : ab_lk lv 1 = some (.int x1)) (f2 : ab_lk lv 2 = some (.int x2)) (f3 : ab_lk lv 3 = some (.int x3)) (f4 : ab_lk lv 4 = some (.int x4)) (f5 : ab_lk lv 5 = some (.int x5)) : dc_pv u N ab_M_X10_readEvent 172 lv [] m (Φ (d_X10_readEvent_b172 x0 x1 x2 x3 x4 x5 m)) := by
  refine dc_pv.mono (dc_ok (C := C_X10_readEvent) (S := S_X10_readEvent) CO_X10_readEvent 400 172 [(0, .ref x0), (1, .int x1), (2, .int x2), (3, .int x3), (4, .int x4), (5, .int x5)] lv [] m (dc_sub_cons f0 (dc_sub_cons f1 (dc_sub_cons f2 (dc_sub_cons f3 (dc_sub_cons f4 (dc_sub_cons f5 (dc_sub_nil))))))) ?_) (Nat.le_succ N)
  unfold d_X10_readEvent_b172
  refine dg_s (pc' := 173) [.ref x0] rfl (fun _ => rfl) rfl ?_
  refine dg_s (pc' := 176) [.int (m.1 x0 15)] rfl (fun _ => rfl) rfl ?_
  refine dw_if (fun t => Φ t) ((Int32.toInt (m.1 x0 15)) ≤ 0) [] 180 179 rfl (fun _ => rfl) (fun c0 => ?_) (fun c0 => ?_)
  · refine dw_g rfl ?_
    refine dg_s (pc' := 181) [.int (0 : Int32)] rfl (fun _ => rfl) rfl ?_
    refine dw_L (pc' := 183) [(6, .int (0 : Int32)), (0, .ref x0), (1, .int x1), (2, .int x2), (3, .int x3), (4, .int x4), (5, .int x5)] [] rfl (fun _ => rfl) ?_
    exact dw_j rfl (fun lv1 hv => k_X10_readEvent_l183 (Φ := (fun t => Φ t)) x0 x1 x2 x3 x4 x5 m (fun _b => kR _b) N  (0 : Int32) lv1 (hv.1 _ rfl) (hv.2.1 _ rfl) (hv.2.2.1 _ rfl) (hv.2.2.2.1 _ rfl) (hv.2.2.2.2.1 _ rfl) (hv.2.2.2.2.2.1 _ rfl) (hv.2.2.2.2.2.2.1 _ rfl))
  · refine dw_g rfl ?_
    exact dw_r (some (.inl (none, m))) rfl (fun _ => rfl) (kR _)
noncomputable def d_X10_readEvent_b162 (x0 : Nat) (x1 : Int32) (x2 : Int32) (x3 : Int32) (x4 : Int32) (m : dc_M) : Option dc_M :=
  ((d_X10_next x0 m).bind (fun q1 => (d_X10_readEvent_b172 x0 x1 x2 x3 x4 (m.1 x0 20) q1)))
set_option maxHeartbeats 8000000 in
theorem k_X10_readEvent_b162 {u : Nat} {N : Nat} {Φ : (Option dc_M) → Option Value → dc_M → Prop} (x0 : Nat) (x1 : Int32) (x2 : Int32) (x3 : Int32) (x4 : Int32) (m : dc_M) (kR : ∀  (m : dc_M), Φ (some (m)) (none) m)  {lv : ab_L} (f0 : ab_lk lv 0 = some (.ref x0)) (f1 : ab_lk lv 1 = some (.int x1)) (f2 : ab_lk lv 2 = some (.int x2)) (f3 : ab_lk lv 3 = some (.int x3)) (f4 : ab_lk lv 4 = some (.int x4)) : dc_pv u N ab_M_X10_readEvent 162 lv [] m (Φ (d_X10_readEvent_b162 x0 x1 x2 x3 x4 m)) := by
  refine dc_pv.mono (dc_ok (C := C_X10_readEvent) (S := S_X10_readEvent) CO_X10_readEvent 400 162 [(0, .ref x0), (1, .int x1), (2, .int x2), (3, .int x3), (4, .int x4)] lv [] m (dc_sub_cons f0 (dc_sub_cons f1 (dc_sub_cons f2 (dc_sub_cons f3 (dc_sub_cons f4 (dc_sub_nil)))))) ?_) (Nat.le_succ N)
  unfold d_X10_readEvent_b162
  refine dg_s (pc' := 163) [.ref x0] rfl (fun _ => rfl) rfl ?_
  refine dg_s (pc' := 166) [.int (m.1 x0 20)] rfl (fun _ => rfl) rfl ?_
  refine dg_L (pc' := 168) [(5, .int (m.1 x0 20)), (0, .ref x0), (1, .int x1), (2, .int x2), (3, .int x3), (4, .int x4)] [] rfl (fun _ => rfl) rfl ?_
  refine dg_s (pc' := 169) [.ref x0] rfl (fun _ => rfl) rfl ?_
  refine dw_b (fun t => Φ t) (pc' := 172) (fun q1 => []) (fun q1 => q1) rfl (fun _ => rfl) (fun q1 => ?_)
  exact dw_j rfl (fun lv1 hv => k_X10_readEvent_b172 (Φ := (fun t => Φ t)) x0 x1 x2 x3 x4 (m.1 x0 20) q1 (fun _b => kR _b)  (hv.1 _ rfl) (hv.2.1 _ rfl) (hv.2.2.1 _ rfl) (hv.2.2.2.1 _ rfl) (hv.2.2.2.2.1 _ rfl) (hv.2.2.2.2.2.1 _ rfl))
noncomputable def d_X10_readEvent_b113 (x0 : Nat) (x1 : Int32) (x2 : Int32) (x3 : Int32) (s0 : Int32) (m : dc_M) : Option dc_M :=
  ((d_X10_next x0 m).bind (fun q1 => (if ¬ (Int32.toInt (q1.1 x0 15)) = 0 then (d_X10_readEvent_b172 x0 x1 x2 x3 s0 (0 : Int32) q1) else (if (Int32.toInt (d_X10_isSign x0 (47 : Int32) q1)) = 0 then (d_X10_readEvent_b172 x0 x1 x2 x3 s0 (0 : Int32) q1) else ((d_X10_next x0 q1).bind (fun q2 => (if ¬ (Int32.toInt (q2.1 x0 15)) = 0 then (d_X10_readEvent_b162 x0 x1 x2 x3 s0 q2) else (if (Int32.toInt (q2.1 x0 19)) = 2 then (d_X10_readEvent_b162 x0 x1 x2 x3 s0 q2) else (dc_let (d_X10_fails x0 (2 : Int32) q2) (fun q3 => (d_X10_readEvent_b162 x0 x1 x2 x3 s0 q3)))))))))))
set_option maxHeartbeats 8000000 in
theorem k_X10_readEvent_b113 {u : Nat} {N : Nat} {Φ : (Option dc_M) → Option Value → dc_M → Prop} (x0 : Nat) (x1 : Int32) (x2 : Int32) (x3 : Int32) (s0 : Int32) (m : dc_M) (kR : ∀  (m : dc_M), Φ (some (m)) (none) m)  {lv : ab_L} (f0 : ab_lk lv 0 = some (.ref x0)) (f1 : ab_lk lv 1 = some (.int x1)) (f2 : ab_lk lv 2 = some (.int x2)) (f3 : ab_lk lv 3 = some (.int x3)) : dc_pv u N ab_M_X10_readEvent 113 lv [.int s0] m (Φ (d_X10_readEvent_b113 x0 x1 x2 x3 s0 m)) := by
  refine dc_pv.mono (dc_ok (C := C_X10_readEvent) (S := S_X10_readEvent) CO_X10_readEvent 400 113 [(0, .ref x0), (1, .int x1), (2, .int x2), (3, .int x3)] lv [.int s0] m (dc_sub_cons f0 (dc_sub_cons f1 (dc_sub_cons f2 (dc_sub_cons f3 (dc_sub_nil))))) ?_) (Nat.le_succ N)
  unfold d_X10_readEvent_b113
  refine dg_L (pc' := 115) [(4, .int s0), (0, .ref x0), (1, .int x1), (2, .int x2), (3, .int x3)] [] rfl (fun _ => rfl) rfl ?_
  refine dg_s (pc' := 116) [.int (0 : Int32)] rfl (fun _ => rfl) rfl ?_
  refine dg_L (pc' := 118) [(5, .int (0 : Int32)), (4, .int s0), (0, .ref x0), (1, .int x1), (2, .int x2), (3, .int x3)] [] rfl (fun _ => rfl) rfl ?_
  refine dg_s (pc' := 119) [.ref x0] rfl (fun _ => rfl) rfl ?_
  refine dw_b (fun t => Φ t) (pc' := 122) (fun q1 => []) (fun q1 => q1) rfl (fun _ => rfl) (fun q1 => ?_)
  refine dw_g rfl ?_
  refine dg_s (pc' := 123) [.ref x0] rfl (fun _ => rfl) rfl ?_
  refine dg_s (pc' := 126) [.int (q1.1 x0 15)] rfl (fun _ => rfl) rfl ?_
  refine dw_if (fun t => Φ t) (¬ (Int32.toInt (q1.1 x0 15)) = 0) [] 172 129 rfl (fun _ => rfl) (fun c0 => ?_) (fun c0 => ?_)
  · exact dw_j rfl (fun lv1 hv => k_X10_readEvent_b172 (Φ := (fun t => Φ t)) x0 x1 x2 x3 s0 (0 : Int32) q1 (fun _b => kR _b)  (hv.1 _ rfl) (hv.2.1 _ rfl) (hv.2.2.1 _ rfl) (hv.2.2.2.1 _ rfl) (hv.2.2.2.2.1 _ rfl) (hv.2.2.2.2.2.1 _ rfl))
  · refine dw_g rfl ?_
    refine dg_s (pc' := 130) [.ref x0] rfl (fun _ => rfl) rfl ?_
    refine dg_s (pc' := 132) [.int (47 : Int32), .ref x0] rfl (fun _ => rfl) rfl ?_
    refine dg_s (pc' := 135) [.int (d_X10_isSign x0 (47 : Int32) q1)] rfl (fun _ => rfl) rfl ?_
    refine dw_if (fun t => Φ t) ((Int32.toInt (d_X10_isSign x0 (47 : Int32) q1)) = 0) [] 172 138 rfl (fun _ => rfl) (fun c1 => ?_) (fun c1 => ?_)
    · exact dw_j rfl (fun lv1 hv => k_X10_readEvent_b172 (Φ := (fun t => Φ t)) x0 x1 x2 x3 s0 (0 : Int32) q1 (fun _b => kR _b)  (hv.1 _ rfl) (hv.2.1 _ rfl) (hv.2.2.1 _ rfl) (hv.2.2.2.1 _ rfl) (hv.2.2.2.2.1 _ rfl) (hv.2.2.2.2.2.1 _ rfl))
    · refine dw_g rfl ?_
      refine dg_s (pc' := 139) [.ref x0] rfl (fun _ => rfl) rfl ?_
      refine dw_b (fun t => Φ t) (pc' := 142) (fun q2 => []) (fun q2 => q2) rfl (fun _ => rfl) (fun q2 => ?_)
      refine dw_g rfl ?_
      refine dg_s (pc' := 143) [.ref x0] rfl (fun _ => rfl) rfl ?_
      refine dg_s (pc' := 146) [.int (q2.1 x0 15)] rfl (fun _ => rfl) rfl ?_
      refine dw_if (fun t => Φ t) (¬ (Int32.toInt (q2.1 x0 15)) = 0) [] 162 149 rfl (fun _ => rfl) (fun c2 => ?_) (fun c2 => ?_)
      · exact dw_j rfl (fun lv1 hv => k_X10_readEvent_b162 (Φ := (fun t => Φ t)) x0 x1 x2 x3 s0 q2 (fun _b => kR _b)  (hv.1 _ rfl) (hv.2.1 _ rfl) (hv.2.2.1 _ rfl) (hv.2.2.2.1 _ rfl) (hv.2.2.2.2.1 _ rfl))
      · refine dw_g rfl ?_
        refine dg_s (pc' := 150) [.ref x0] rfl (fun _ => rfl) rfl ?_
        refine dg_s (pc' := 153) [.int (q2.1 x0 19)] rfl (fun _ => rfl) rfl ?_
        refine dg_s (pc' := 154) [.int (2 : Int32), .int (q2.1 x0 19)] rfl (fun _ => rfl) rfl ?_
        refine dw_if (fun t => Φ t) ((Int32.toInt (q2.1 x0 19)) = 2) [] 162 157 rfl (fun _ => rfl) (fun c3 => ?_) (fun c3 => ?_)
        · exact dw_j rfl (fun lv1 hv => k_X10_readEvent_b162 (Φ := (fun t => Φ t)) x0 x1 x2 x3 s0 q2 (fun _b => kR _b)  (hv.1 _ rfl) (hv.2.1 _ rfl) (hv.2.2.1 _ rfl) (hv.2.2.2.1 _ rfl) (hv.2.2.2.2.1 _ rfl))
        · refine dw_g rfl ?_
          refine dg_s (pc' := 158) [.ref x0] rfl (fun _ => rfl) rfl ?_
          refine dg_s (pc' := 159) [.int (2 : Int32), .ref x0] rfl (fun _ => rfl) rfl ?_
          refine dw_l (fun t => Φ t) (pc' := 162) (fun q3 => []) (fun q3 => q3) rfl (fun _ => rfl) (fun q3 => ?_)
          exact dw_j rfl (fun lv1 hv => k_X10_readEvent_b162 (Φ := (fun t => Φ t)) x0 x1 x2 x3 s0 q3 (fun _b => kR _b)  (hv.1 _ rfl) (hv.2.1 _ rfl) (hv.2.2.1 _ rfl) (hv.2.2.2.1 _ rfl) (hv.2.2.2.2.1 _ rfl))
noncomputable def d_X10_readEvent_b99 (x0 : Nat) (x1 : Int32) (x2 : Int32) (x3 : Int32) (m : dc_M) : Option dc_M :=
  (if (Int32.toInt (d_X10_isSign x0 (43 : Int32) m)) = 0 then (d_X10_readEvent_b113 x0 x1 x2 x3 (0 : Int32) m) else (d_X10_readEvent_b113 x0 x1 x2 x3 (1 : Int32) m))
set_option maxHeartbeats 8000000 in
theorem k_X10_readEvent_b99 {u : Nat} {N : Nat} {Φ : (Option dc_M) → Option Value → dc_M → Prop} (x0 : Nat) (x1 : Int32) (x2 : Int32) (x3 : Int32) (m : dc_M) (kR : ∀  (m : dc_M), Φ (some (m)) (none) m)  {lv : ab_L} (f0 : ab_lk lv 0 = some (.ref x0)) (f1 : ab_lk lv 1 = some (.int x1)) (f2 : ab_lk lv 2 = some (.int x2)) (f3 : ab_lk lv 3 = some (.int x3)) : dc_pv u N ab_M_X10_readEvent 99 lv [] m (Φ (d_X10_readEvent_b99 x0 x1 x2 x3 m)) := by
  refine dc_pv.mono (dc_ok (C := C_X10_readEvent) (S := S_X10_readEvent) CO_X10_readEvent 400 99 [(0, .ref x0), (1, .int x1), (2, .int x2), (3, .int x3)] lv [] m (dc_sub_cons f0 (dc_sub_cons f1 (dc_sub_cons f2 (dc_sub_cons f3 (dc_sub_nil))))) ?_) (Nat.le_succ N)
  unfold d_X10_readEvent_b99
  refine dg_s (pc' := 100) [.ref x0] rfl (fun _ => rfl) rfl ?_
  refine dg_s (pc' := 102) [.int (43 : Int32), .ref x0] rfl (fun _ => rfl) rfl ?_
  refine dg_s (pc' := 105) [.int (d_X10_isSign x0 (43 : Int32) m)] rfl (fun _ => rfl) rfl ?_
  refine dw_if (fun t => Φ t) ((Int32.toInt (d_X10_isSign x0 (43 : Int32) m)) = 0) [] 112 108 rfl (fun _ => rfl) (fun c0 => ?_) (fun c0 => ?_)
  · refine dw_g rfl ?_
    refine dw_s (pc' := 113) [.int (0 : Int32)] rfl (fun _ => rfl) ?_
    exact dw_j rfl (fun lv1 hv => k_X10_readEvent_b113 (Φ := (fun t => Φ t)) x0 x1 x2 x3 (0 : Int32) m (fun _b => kR _b)  (hv.1 _ rfl) (hv.2.1 _ rfl) (hv.2.2.1 _ rfl) (hv.2.2.2.1 _ rfl))
  · refine dw_g rfl ?_
    refine dg_s (pc' := 109) [.int (1 : Int32)] rfl (fun _ => rfl) rfl ?_
    refine dw_s (pc' := 113) [.int (1 : Int32)] rfl (fun _ => rfl) ?_
    exact dw_j rfl (fun lv1 hv => k_X10_readEvent_b113 (Φ := (fun t => Φ t)) x0 x1 x2 x3 (1 : Int32) m (fun _b => kR _b)  (hv.1 _ rfl) (hv.2.1 _ rfl) (hv.2.2.1 _ rfl) (hv.2.2.2.1 _ rfl))
noncomputable def d_X10_readEvent_b65 (x0 : Nat) (x1 : Int32) (x2 : Int32) (x3 : Int32) (m : dc_M) : Option dc_M :=
  ((d_X10_next x0 m).bind (fun q1 => (if ¬ (Int32.toInt (q1.1 x0 15)) = 0 then (d_X10_readEvent_b99 x0 x1 x2 x3 q1) else (if ¬ (Int32.toInt (d_X10_isSign x0 (43 : Int32) q1)) = 0 then (d_X10_readEvent_b99 x0 x1 x2 x3 q1) else (if ¬ (Int32.toInt (d_X10_isSign x0 (45 : Int32) q1)) = 0 then (d_X10_readEvent_b99 x0 x1 x2 x3 q1) else (dc_let (d_X10_fails x0 (2 : Int32) q1) (fun q2 => (d_X10_readEvent_b99 x0 x1 x2 x3 q2))))))))
set_option maxHeartbeats 8000000 in
theorem k_X10_readEvent_b65 {u : Nat} {N : Nat} {Φ : (Option dc_M) → Option Value → dc_M → Prop} (x0 : Nat) (x1 : Int32) (x2 : Int32) (x3 : Int32) (m : dc_M) (kR : ∀  (m : dc_M), Φ (some (m)) (none) m)  {lv : ab_L} (f0 : ab_lk lv 0 = some (.ref x0)) (f1 : ab_lk lv 1 = some (.int x1)) (f2 : ab_lk lv 2 = some (.int x2)) (f3 : ab_lk lv 3 = some (.int x3)) : dc_pv u N ab_M_X10_readEvent 65 lv [] m (Φ (d_X10_readEvent_b65 x0 x1 x2 x3 m)) := by
  refine dc_pv.mono (dc_ok (C := C_X10_readEvent) (S := S_X10_readEvent) CO_X10_readEvent 400 65 [(0, .ref x0), (1, .int x1), (2, .int x2), (3, .int x3)] lv [] m (dc_sub_cons f0 (dc_sub_cons f1 (dc_sub_cons f2 (dc_sub_cons f3 (dc_sub_nil))))) ?_) (Nat.le_succ N)
  unfold d_X10_readEvent_b65
  refine dg_s (pc' := 66) [.ref x0] rfl (fun _ => rfl) rfl ?_
  refine dw_b (fun t => Φ t) (pc' := 69) (fun q1 => []) (fun q1 => q1) rfl (fun _ => rfl) (fun q1 => ?_)
  refine dw_g rfl ?_
  refine dg_s (pc' := 70) [.ref x0] rfl (fun _ => rfl) rfl ?_
  refine dg_s (pc' := 73) [.int (q1.1 x0 15)] rfl (fun _ => rfl) rfl ?_
  refine dw_if (fun t => Φ t) (¬ (Int32.toInt (q1.1 x0 15)) = 0) [] 99 76 rfl (fun _ => rfl) (fun c0 => ?_) (fun c0 => ?_)
  · exact dw_j rfl (fun lv1 hv => k_X10_readEvent_b99 (Φ := (fun t => Φ t)) x0 x1 x2 x3 q1 (fun _b => kR _b)  (hv.1 _ rfl) (hv.2.1 _ rfl) (hv.2.2.1 _ rfl) (hv.2.2.2.1 _ rfl))
  · refine dw_g rfl ?_
    refine dg_s (pc' := 77) [.ref x0] rfl (fun _ => rfl) rfl ?_
    refine dg_s (pc' := 79) [.int (43 : Int32), .ref x0] rfl (fun _ => rfl) rfl ?_
    refine dg_s (pc' := 82) [.int (d_X10_isSign x0 (43 : Int32) q1)] rfl (fun _ => rfl) rfl ?_
    refine dw_if (fun t => Φ t) (¬ (Int32.toInt (d_X10_isSign x0 (43 : Int32) q1)) = 0) [] 99 85 rfl (fun _ => rfl) (fun c1 => ?_) (fun c1 => ?_)
    · exact dw_j rfl (fun lv1 hv => k_X10_readEvent_b99 (Φ := (fun t => Φ t)) x0 x1 x2 x3 q1 (fun _b => kR _b)  (hv.1 _ rfl) (hv.2.1 _ rfl) (hv.2.2.1 _ rfl) (hv.2.2.2.1 _ rfl))
    · refine dw_g rfl ?_
      refine dg_s (pc' := 86) [.ref x0] rfl (fun _ => rfl) rfl ?_
      refine dg_s (pc' := 88) [.int (45 : Int32), .ref x0] rfl (fun _ => rfl) rfl ?_
      refine dg_s (pc' := 91) [.int (d_X10_isSign x0 (45 : Int32) q1)] rfl (fun _ => rfl) rfl ?_
      refine dw_if (fun t => Φ t) (¬ (Int32.toInt (d_X10_isSign x0 (45 : Int32) q1)) = 0) [] 99 94 rfl (fun _ => rfl) (fun c2 => ?_) (fun c2 => ?_)
      · exact dw_j rfl (fun lv1 hv => k_X10_readEvent_b99 (Φ := (fun t => Φ t)) x0 x1 x2 x3 q1 (fun _b => kR _b)  (hv.1 _ rfl) (hv.2.1 _ rfl) (hv.2.2.1 _ rfl) (hv.2.2.2.1 _ rfl))
      · refine dw_g rfl ?_
        refine dg_s (pc' := 95) [.ref x0] rfl (fun _ => rfl) rfl ?_
        refine dg_s (pc' := 96) [.int (2 : Int32), .ref x0] rfl (fun _ => rfl) rfl ?_
        refine dw_l (fun t => Φ t) (pc' := 99) (fun q2 => []) (fun q2 => q2) rfl (fun _ => rfl) (fun q2 => ?_)
        exact dw_j rfl (fun lv1 hv => k_X10_readEvent_b99 (Φ := (fun t => Φ t)) x0 x1 x2 x3 q2 (fun _b => kR _b)  (hv.1 _ rfl) (hv.2.1 _ rfl) (hv.2.2.1 _ rfl) (hv.2.2.2.1 _ rfl))
noncomputable def d_X10_readEvent_b46 (x0 : Nat) (x1 : Int32) (x2 : Int32) (s0 : Int32) (m : dc_M) : Option dc_M :=
  (if ¬ (Int32.toInt (m.1 x0 15)) = 0 then (d_X10_readEvent_b65 x0 x1 x2 s0 m) else (if ¬ (Int32.toInt s0) = (-4) then (d_X10_readEvent_b65 x0 x1 x2 s0 m) else (dc_let (d_X10_fails x0 (4 : Int32) m) (fun q1 => (d_X10_readEvent_b65 x0 x1 x2 s0 q1)))))
set_option maxHeartbeats 8000000 in
theorem k_X10_readEvent_b46 {u : Nat} {N : Nat} {Φ : (Option dc_M) → Option Value → dc_M → Prop} (x0 : Nat) (x1 : Int32) (x2 : Int32) (s0 : Int32) (m : dc_M) (kR : ∀  (m : dc_M), Φ (some (m)) (none) m)  {lv : ab_L} (f0 : ab_lk lv 0 = some (.ref x0)) (f1 : ab_lk lv 1 = some (.int x1)) (f2 : ab_lk lv 2 = some (.int x2)) : dc_pv u N ab_M_X10_readEvent 46 lv [.int s0] m (Φ (d_X10_readEvent_b46 x0 x1 x2 s0 m)) := by
  refine dc_pv.mono (dc_ok (C := C_X10_readEvent) (S := S_X10_readEvent) CO_X10_readEvent 400 46 [(0, .ref x0), (1, .int x1), (2, .int x2)] lv [.int s0] m (dc_sub_cons f0 (dc_sub_cons f1 (dc_sub_cons f2 (dc_sub_nil)))) ?_) (Nat.le_succ N)
  unfold d_X10_readEvent_b46
  refine dg_L (pc' := 47) [(3, .int s0), (0, .ref x0), (1, .int x1), (2, .int x2)] [] rfl (fun _ => rfl) rfl ?_
  refine dg_s (pc' := 48) [.ref x0] rfl (fun _ => rfl) rfl ?_
  refine dg_s (pc' := 51) [.int (m.1 x0 15)] rfl (fun _ => rfl) rfl ?_
  refine dw_if (fun t => Φ t) (¬ (Int32.toInt (m.1 x0 15)) = 0) [] 65 54 rfl (fun _ => rfl) (fun c0 => ?_) (fun c0 => ?_)
  · exact dw_j rfl (fun lv1 hv => k_X10_readEvent_b65 (Φ := (fun t => Φ t)) x0 x1 x2 s0 m (fun _b => kR _b)  (hv.1 _ rfl) (hv.2.1 _ rfl) (hv.2.2.1 _ rfl) (hv.2.2.2.1 _ rfl))
  · refine dw_g rfl ?_
    refine dg_s (pc' := 55) [.int s0] rfl (fun _ => rfl) rfl ?_
    refine dg_s (pc' := 57) [.int (-4 : Int32), .int s0] rfl (fun _ => rfl) rfl ?_
    refine dw_if (fun t => Φ t) (¬ (Int32.toInt s0) = (-4)) [] 65 60 rfl (fun _ => rfl) (fun c1 => ?_) (fun c1 => ?_)
    · exact dw_j rfl (fun lv1 hv => k_X10_readEvent_b65 (Φ := (fun t => Φ t)) x0 x1 x2 s0 m (fun _b => kR _b)  (hv.1 _ rfl) (hv.2.1 _ rfl) (hv.2.2.1 _ rfl) (hv.2.2.2.1 _ rfl))
    · refine dw_g rfl ?_
      refine dg_s (pc' := 61) [.ref x0] rfl (fun _ => rfl) rfl ?_
      refine dg_s (pc' := 62) [.int (4 : Int32), .ref x0] rfl (fun _ => rfl) rfl ?_
      refine dw_l (fun t => Φ t) (pc' := 65) (fun q1 => []) (fun q1 => q1) rfl (fun _ => rfl) (fun q1 => ?_)
      exact dw_j rfl (fun lv1 hv => k_X10_readEvent_b65 (Φ := (fun t => Φ t)) x0 x1 x2 s0 q1 (fun _b => kR _b)  (hv.1 _ rfl) (hv.2.1 _ rfl) (hv.2.2.1 _ rfl) (hv.2.2.2.1 _ rfl))
noncomputable def d_X10_readEvent_b24 (x0 : Nat) (x1 : Int32) (x2 : Int32) (m : dc_M) : Option dc_M :=
  (if ¬ (Int32.toInt (m.1 x0 15)) = 0 then (d_X10_readEvent_b46 x0 x1 x2 (-4 : Int32) m) else ((d_X10_wireAt x0 ((m.1 x0 20) - (1 : Int32)) m).bind (fun q1 => (d_X10_readEvent_b46 x0 x1 x2 q1 m))))
set_option maxHeartbeats 8000000 in
theorem k_X10_readEvent_b24 {u : Nat} {N : Nat} {Φ : (Option dc_M) → Option Value → dc_M → Prop} (x0 : Nat) (x1 : Int32) (x2 : Int32) (m : dc_M) (kR : ∀  (m : dc_M), Φ (some (m)) (none) m)  {lv : ab_L} (f0 : ab_lk lv 0 = some (.ref x0)) (f1 : ab_lk lv 1 = some (.int x1)) (f2 : ab_lk lv 2 = some (.int x2)) : dc_pv u N ab_M_X10_readEvent 24 lv [] m (Φ (d_X10_readEvent_b24 x0 x1 x2 m)) := by
  refine dc_pv.mono (dc_ok (C := C_X10_readEvent) (S := S_X10_readEvent) CO_X10_readEvent 400 24 [(0, .ref x0), (1, .int x1), (2, .int x2)] lv [] m (dc_sub_cons f0 (dc_sub_cons f1 (dc_sub_cons f2 (dc_sub_nil)))) ?_) (Nat.le_succ N)
  unfold d_X10_readEvent_b24
  refine dg_s (pc' := 25) [.ref x0] rfl (fun _ => rfl) rfl ?_
  refine dg_s (pc' := 28) [.int (m.1 x0 15)] rfl (fun _ => rfl) rfl ?_
  refine dw_if (fun t => Φ t) (¬ (Int32.toInt (m.1 x0 15)) = 0) [] 44 31 rfl (fun _ => rfl) (fun c0 => ?_) (fun c0 => ?_)
  · refine dw_g rfl ?_
    refine dw_s (pc' := 46) [.int (-4 : Int32)] rfl (fun _ => rfl) ?_
    exact dw_j rfl (fun lv1 hv => k_X10_readEvent_b46 (Φ := (fun t => Φ t)) x0 x1 x2 (-4 : Int32) m (fun _b => kR _b)  (hv.1 _ rfl) (hv.2.1 _ rfl) (hv.2.2.1 _ rfl))
  · refine dw_g rfl ?_
    refine dg_s (pc' := 32) [.ref x0] rfl (fun _ => rfl) rfl ?_
    refine dg_s (pc' := 33) [.ref x0, .ref x0] rfl (fun _ => rfl) rfl ?_
    refine dg_s (pc' := 36) [.int (m.1 x0 20), .ref x0] rfl (fun _ => rfl) rfl ?_
    refine dg_s (pc' := 37) [.int (1 : Int32), .int (m.1 x0 20), .ref x0] rfl (fun _ => rfl) rfl ?_
    refine dg_s (pc' := 38) [.int ((m.1 x0 20) - (1 : Int32)), .ref x0] rfl (fun _ => rfl) rfl ?_
    refine dw_b (fun t => Φ t) (pc' := 41) (fun q1 => [.int q1]) (fun q1 => m) rfl (fun _ => rfl) (fun q1 => ?_)
    refine dw_g rfl ?_
    refine dw_s (pc' := 46) [.int q1] rfl (fun _ => rfl) ?_
    exact dw_j rfl (fun lv1 hv => k_X10_readEvent_b46 (Φ := (fun t => Φ t)) x0 x1 x2 q1 m (fun _b => kR _b)  (hv.1 _ rfl) (hv.2.1 _ rfl) (hv.2.2.1 _ rfl))
noncomputable def d_X10_readEvent (x0 : Nat) (x1 : Int32) (m : dc_M) : Option dc_M :=
  (if ¬ (Int32.toInt (m.1 x0 15)) = 0 then (d_X10_readEvent_b24 x0 x1 (m.1 x0 18) m) else (if ¬ (Int32.toInt (d_X10_isLetter x0 m)) = 0 then (d_X10_readEvent_b24 x0 x1 (m.1 x0 18) m) else (dc_let (d_X10_fails x0 (2 : Int32) m) (fun q1 => (d_X10_readEvent_b24 x0 x1 (m.1 x0 18) q1)))))
set_option maxHeartbeats 8000000 in
theorem k_X10_readEvent {u : Nat} {N : Nat} {Φ : (Option dc_M) → Option Value → dc_M → Prop} (x0 : Nat) (x1 : Int32) (m : dc_M) (kR : ∀  (m : dc_M), Φ (some (m)) (none) m)  {lv : ab_L} (f0 : ab_lk lv 0 = some (.ref x0)) (f1 : ab_lk lv 1 = some (.int x1)) : dc_pv u N ab_M_X10_readEvent 0 lv [] m (Φ (d_X10_readEvent x0 x1 m)) := by
  refine dc_pv.mono (dc_ok (C := C_X10_readEvent) (S := S_X10_readEvent) CO_X10_readEvent 400 0 [(0, .ref x0), (1, .int x1)] lv [] m (dc_sub_cons f0 (dc_sub_cons f1 (dc_sub_nil))) ?_) (Nat.le_succ N)
  unfold d_X10_readEvent
  refine dg_s (pc' := 1) [.ref x0] rfl (fun _ => rfl) rfl ?_
  refine dg_s (pc' := 4) [.int (m.1 x0 18)] rfl (fun _ => rfl) rfl ?_
  refine dg_L (pc' := 5) [(2, .int (m.1 x0 18)), (0, .ref x0), (1, .int x1)] [] rfl (fun _ => rfl) rfl ?_
  refine dg_s (pc' := 6) [.ref x0] rfl (fun _ => rfl) rfl ?_
  refine dg_s (pc' := 9) [.int (m.1 x0 15)] rfl (fun _ => rfl) rfl ?_
  refine dw_if (fun t => Φ t) (¬ (Int32.toInt (m.1 x0 15)) = 0) [] 24 12 rfl (fun _ => rfl) (fun c0 => ?_) (fun c0 => ?_)
  · exact dw_j rfl (fun lv1 hv => k_X10_readEvent_b24 (Φ := (fun t => Φ t)) x0 x1 (m.1 x0 18) m (fun _b => kR _b)  (hv.1 _ rfl) (hv.2.1 _ rfl) (hv.2.2.1 _ rfl))
  · refine dw_g rfl ?_
    refine dg_s (pc' := 13) [.ref x0] rfl (fun _ => rfl) rfl ?_
    refine dg_s (pc' := 16) [.int (d_X10_isLetter x0 m)] rfl (fun _ => rfl) rfl ?_
    refine dw_if (fun t => Φ t) (¬ (Int32.toInt (d_X10_isLetter x0 m)) = 0) [] 24 19 rfl (fun _ => rfl) (fun c1 => ?_) (fun c1 => ?_)
    · exact dw_j rfl (fun lv1 hv => k_X10_readEvent_b24 (Φ := (fun t => Φ t)) x0 x1 (m.1 x0 18) m (fun _b => kR _b)  (hv.1 _ rfl) (hv.2.1 _ rfl) (hv.2.2.1 _ rfl))
    · refine dw_g rfl ?_
      refine dg_s (pc' := 20) [.ref x0] rfl (fun _ => rfl) rfl ?_
      refine dg_s (pc' := 21) [.int (2 : Int32), .ref x0] rfl (fun _ => rfl) rfl ?_
      refine dw_l (fun t => Φ t) (pc' := 24) (fun q1 => []) (fun q1 => q1) rfl (fun _ => rfl) (fun q1 => ?_)
      exact dw_j rfl (fun lv1 hv => k_X10_readEvent_b24 (Φ := (fun t => Φ t)) x0 x1 (m.1 x0 18) q1 (fun _b => kR _b)  (hv.1 _ rfl) (hv.2.1 _ rfl) (hv.2.2.1 _ rfl))
noncomputable def H_X10_readEvent : dc_H := fun As m k => match As with
  | [.ref x0, .int x1] => (d_X10_readEvent x0 x1 m).bind (fun q => k (none) q)
  | _ => dc_kz
theorem H_X10_readEvent_ok {u : Nat} : dc_cok u 157 H_X10_readEvent := fun M' hG N As m k P hz hP => by
  obtain rfl : ab_M_X10_readEvent = M' := Option.some.inj hG
  unfold H_X10_readEvent at hP
  split at hP
  · rename_i x0 x1
    exact dc_pv.imp (k_X10_readEvent (Φ := fun (t : Option dc_M) r m' => P (t.bind (fun q => k (none) q)) → P (k r m')) x0 x1 m (fun _ h => h) rfl rfl) (fun r m' h => h hP)
  · exact absurd hP hz
noncomputable def C_X10_readPlace : List (Nat × dc_H) := [(151, H_X10_fails), (153, H_X10_isSign), (152, H_X10_next), (157, H_X10_readEvent)]
theorem CO_X10_readPlace {u : Nat} : dc_CO u C_X10_readPlace := dc_CO_cons H_X10_fails_ok (dc_CO_cons H_X10_isSign_ok (dc_CO_cons H_X10_next_ok (dc_CO_cons H_X10_readEvent_ok (dc_CO_nil))))
def S_X10_readPlace : List (Nat × List Nat) := [(15, [0]), (19, [0]), (43, [0]), (49, [0, 1]), (82, [0]), (102, [0]), (132, [0])]
noncomputable def d_X10_readPlace_b132 (x0 : Nat) (s0 : Int32) (s1 : Int32) (s2 : Nat) (m : dc_M) : Option dc_M :=
  ((d_X10_next x0 (dc_wi m s2 31 (s1 ||| s0))).bind (fun q1 => (if ¬ (Int32.toInt (q1.1 x0 15)) = 0 then some (q1) else some ((dc_wi q1 x0 30 ((q1.1 x0 30) + (1 : Int32)))))))
set_option maxHeartbeats 8000000 in
theorem k_X10_readPlace_b132 {u : Nat} {N : Nat} {Φ : (Option dc_M) → Option Value → dc_M → Prop} (x0 : Nat) (s0 : Int32) (s1 : Int32) (s2 : Nat) (m : dc_M) (kR : ∀  (m : dc_M), Φ (some (m)) (none) m)  {lv : ab_L} (f0 : ab_lk lv 0 = some (.ref x0)) : dc_pv u N ab_M_X10_readPlace 132 lv [.int s0, .int s1, .ref s2] m (Φ (d_X10_readPlace_b132 x0 s0 s1 s2 m)) := by
  refine dc_pv.mono (dc_ok (C := C_X10_readPlace) (S := S_X10_readPlace) CO_X10_readPlace 400 132 [(0, .ref x0)] lv [.int s0, .int s1, .ref s2] m (dc_sub_cons f0 (dc_sub_nil)) ?_) (Nat.le_succ N)
  unfold d_X10_readPlace_b132
  refine dg_s (pc' := 133) [.int (s1 ||| s0), .ref s2] rfl (fun _ => rfl) rfl ?_
  refine dg_m (pc' := 136) (dc_wi m s2 31 (s1 ||| s0)) [] rfl (fun _ => rfl) rfl ?_
  refine dg_s (pc' := 137) [.ref x0] rfl (fun _ => rfl) rfl ?_
  refine dw_b (fun t => Φ t) (pc' := 140) (fun q1 => []) (fun q1 => q1) rfl (fun _ => rfl) (fun q1 => ?_)
  refine dw_g rfl ?_
  refine dg_s (pc' := 141) [.ref x0] rfl (fun _ => rfl) rfl ?_
  refine dg_s (pc' := 144) [.int (q1.1 x0 15)] rfl (fun _ => rfl) rfl ?_
  refine dw_if (fun t => Φ t) (¬ (Int32.toInt (q1.1 x0 15)) = 0) [] 157 147 rfl (fun _ => rfl) (fun c0 => ?_) (fun c0 => ?_)
  · refine dw_g rfl ?_
    exact dw_r (some (.inl (none, q1))) rfl (fun _ => rfl) (kR _)
  · refine dw_g rfl ?_
    refine dg_s (pc' := 148) [.ref x0] rfl (fun _ => rfl) rfl ?_
    refine dg_s (pc' := 149) [.ref x0, .ref x0] rfl (fun _ => rfl) rfl ?_
    refine dg_s (pc' := 152) [.int (q1.1 x0 30), .ref x0] rfl (fun _ => rfl) rfl ?_
    refine dg_s (pc' := 153) [.int (1 : Int32), .int (q1.1 x0 30), .ref x0] rfl (fun _ => rfl) rfl ?_
    refine dg_s (pc' := 154) [.int ((q1.1 x0 30) + (1 : Int32)), .ref x0] rfl (fun _ => rfl) rfl ?_
    refine dg_m (pc' := 157) (dc_wi q1 x0 30 ((q1.1 x0 30) + (1 : Int32))) [] rfl (fun _ => rfl) rfl ?_
    exact dw_r (some (.inl (none, (dc_wi q1 x0 30 ((q1.1 x0 30) + (1 : Int32)))))) rfl (fun _ => rfl) (kR _)
noncomputable def d_X10_readPlace_b102 (x0 : Nat) (m : dc_M) : Option dc_M :=
  (if ¬ (Int32.toInt (m.1 x0 15)) = 0 then (d_X10_readPlace_b132 x0 (0 : Int32) (m.1 x0 31) x0 m) else (if ¬ (Int32.toInt (m.1 x0 20)) = 1 then (d_X10_readPlace_b132 x0 (0 : Int32) (m.1 x0 31) x0 m) else (d_X10_readPlace_b132 x0 ((1 : Int32) <<< ((m.1 x0 30) &&& 31)) (m.1 x0 31) x0 m)))
set_option maxHeartbeats 8000000 in
theorem k_X10_readPlace_b102 {u : Nat} {N : Nat} {Φ : (Option dc_M) → Option Value → dc_M → Prop} (x0 : Nat) (m : dc_M) (kR : ∀  (m : dc_M), Φ (some (m)) (none) m)  {lv : ab_L} (f0 : ab_lk lv 0 = some (.ref x0)) : dc_pv u N ab_M_X10_readPlace 102 lv [] m (Φ (d_X10_readPlace_b102 x0 m)) := by
  refine dc_pv.mono (dc_ok (C := C_X10_readPlace) (S := S_X10_readPlace) CO_X10_readPlace 400 102 [(0, .ref x0)] lv [] m (dc_sub_cons f0 (dc_sub_nil)) ?_) (Nat.le_succ N)
  unfold d_X10_readPlace_b102
  refine dg_s (pc' := 103) [.ref x0] rfl (fun _ => rfl) rfl ?_
  refine dg_s (pc' := 104) [.ref x0, .ref x0] rfl (fun _ => rfl) rfl ?_
  refine dg_s (pc' := 107) [.int (m.1 x0 31), .ref x0] rfl (fun _ => rfl) rfl ?_
  refine dg_s (pc' := 108) [.ref x0, .int (m.1 x0 31), .ref x0] rfl (fun _ => rfl) rfl ?_
  refine dg_s (pc' := 111) [.int (m.1 x0 15), .int (m.1 x0 31), .ref x0] rfl (fun _ => rfl) rfl ?_
  refine dw_if (fun t => Φ t) (¬ (Int32.toInt (m.1 x0 15)) = 0) [.int (m.1 x0 31), .ref x0] 131 114 rfl (fun _ => rfl) (fun c0 => ?_) (fun c0 => ?_)
  · refine dw_g rfl ?_
    refine dw_s (pc' := 132) [.int (0 : Int32), .int (m.1 x0 31), .ref x0] rfl (fun _ => rfl) ?_
    exact dw_j rfl (fun lv1 hv => k_X10_readPlace_b132 (Φ := (fun t => Φ t)) x0 (0 : Int32) (m.1 x0 31) x0 m (fun _b => kR _b)  (hv.1 _ rfl))
  · refine dw_g rfl ?_
    refine dg_s (pc' := 115) [.ref x0, .int (m.1 x0 31), .ref x0] rfl (fun _ => rfl) rfl ?_
    refine dg_s (pc' := 118) [.int (m.1 x0 20), .int (m.1 x0 31), .ref x0] rfl (fun _ => rfl) rfl ?_
    refine dg_s (pc' := 119) [.int (1 : Int32), .int (m.1 x0 20), .int (m.1 x0 31), .ref x0] rfl (fun _ => rfl) rfl ?_
    refine dw_if (fun t => Φ t) (¬ (Int32.toInt (m.1 x0 20)) = 1) [.int (m.1 x0 31), .ref x0] 131 122 rfl (fun _ => rfl) (fun c1 => ?_) (fun c1 => ?_)
    · refine dw_g rfl ?_
      refine dw_s (pc' := 132) [.int (0 : Int32), .int (m.1 x0 31), .ref x0] rfl (fun _ => rfl) ?_
      exact dw_j rfl (fun lv1 hv => k_X10_readPlace_b132 (Φ := (fun t => Φ t)) x0 (0 : Int32) (m.1 x0 31) x0 m (fun _b => kR _b)  (hv.1 _ rfl))
    · refine dw_g rfl ?_
      refine dg_s (pc' := 123) [.int (1 : Int32), .int (m.1 x0 31), .ref x0] rfl (fun _ => rfl) rfl ?_
      refine dg_s (pc' := 124) [.ref x0, .int (1 : Int32), .int (m.1 x0 31), .ref x0] rfl (fun _ => rfl) rfl ?_
      refine dg_s (pc' := 127) [.int (m.1 x0 30), .int (1 : Int32), .int (m.1 x0 31), .ref x0] rfl (fun _ => rfl) rfl ?_
      refine dg_s (pc' := 128) [.int ((1 : Int32) <<< ((m.1 x0 30) &&& 31)), .int (m.1 x0 31), .ref x0] rfl (fun _ => rfl) rfl ?_
      refine dw_s (pc' := 132) [.int ((1 : Int32) <<< ((m.1 x0 30) &&& 31)), .int (m.1 x0 31), .ref x0] rfl (fun _ => rfl) ?_
      exact dw_j rfl (fun lv1 hv => k_X10_readPlace_b132 (Φ := (fun t => Φ t)) x0 ((1 : Int32) <<< ((m.1 x0 30) &&& 31)) (m.1 x0 31) x0 m (fun _b => kR _b)  (hv.1 _ rfl))
noncomputable def d_X10_readPlace_b82 (x0 : Nat) (m : dc_M) : Option dc_M :=
  (if ¬ (Int32.toInt (m.1 x0 15)) = 0 then (d_X10_readPlace_b102 x0 m) else (if (Int32.toInt (m.1 x0 20)) ≤ 1 then (d_X10_readPlace_b102 x0 m) else (dc_let (d_X10_fails x0 (3 : Int32) m) (fun q1 => (d_X10_readPlace_b102 x0 q1)))))
set_option maxHeartbeats 8000000 in
theorem k_X10_readPlace_b82 {u : Nat} {N : Nat} {Φ : (Option dc_M) → Option Value → dc_M → Prop} (x0 : Nat) (m : dc_M) (kR : ∀  (m : dc_M), Φ (some (m)) (none) m)  {lv : ab_L} (f0 : ab_lk lv 0 = some (.ref x0)) : dc_pv u N ab_M_X10_readPlace 82 lv [] m (Φ (d_X10_readPlace_b82 x0 m)) := by
  refine dc_pv.mono (dc_ok (C := C_X10_readPlace) (S := S_X10_readPlace) CO_X10_readPlace 400 82 [(0, .ref x0)] lv [] m (dc_sub_cons f0 (dc_sub_nil)) ?_) (Nat.le_succ N)
  unfold d_X10_readPlace_b82
  refine dg_s (pc' := 83) [.ref x0] rfl (fun _ => rfl) rfl ?_
  refine dg_s (pc' := 86) [.int (m.1 x0 15)] rfl (fun _ => rfl) rfl ?_
  refine dw_if (fun t => Φ t) (¬ (Int32.toInt (m.1 x0 15)) = 0) [] 102 89 rfl (fun _ => rfl) (fun c0 => ?_) (fun c0 => ?_)
  · exact dw_j rfl (fun lv1 hv => k_X10_readPlace_b102 (Φ := (fun t => Φ t)) x0 m (fun _b => kR _b)  (hv.1 _ rfl))
  · refine dw_g rfl ?_
    refine dg_s (pc' := 90) [.ref x0] rfl (fun _ => rfl) rfl ?_
    refine dg_s (pc' := 93) [.int (m.1 x0 20)] rfl (fun _ => rfl) rfl ?_
    refine dg_s (pc' := 94) [.int (1 : Int32), .int (m.1 x0 20)] rfl (fun _ => rfl) rfl ?_
    refine dw_if (fun t => Φ t) ((Int32.toInt (m.1 x0 20)) ≤ 1) [] 102 97 rfl (fun _ => rfl) (fun c1 => ?_) (fun c1 => ?_)
    · exact dw_j rfl (fun lv1 hv => k_X10_readPlace_b102 (Φ := (fun t => Φ t)) x0 m (fun _b => kR _b)  (hv.1 _ rfl))
    · refine dw_g rfl ?_
      refine dg_s (pc' := 98) [.ref x0] rfl (fun _ => rfl) rfl ?_
      refine dg_s (pc' := 99) [.int (3 : Int32), .ref x0] rfl (fun _ => rfl) rfl ?_
      refine dw_l (fun t => Φ t) (pc' := 102) (fun q1 => []) (fun q1 => q1) rfl (fun _ => rfl) (fun q1 => ?_)
      exact dw_j rfl (fun lv1 hv => k_X10_readPlace_b102 (Φ := (fun t => Φ t)) x0 q1 (fun _b => kR _b)  (hv.1 _ rfl))
noncomputable def d_X10_readPlace_l49b (x0 : Nat) (x1 : Int32) (m : dc_M) : Option ((Int32 × dc_M) ⊕ dc_M) :=
  (if ¬ (Int32.toInt (m.1 x0 15)) = 0 then ((d_X10_readPlace_b82 x0 m).map (fun z => Sum.inr (z))) else (if (Int32.toInt x1) = 0 then ((d_X10_readPlace_b82 x0 m).map (fun z => Sum.inr (z))) else ((d_X10_readEvent x0 (0 : Int32) m).bind (fun q1 => (if (Int32.toInt (q1.1 x0 19)) = 2 then some (Sum.inl ((0 : Int32), q1)) else some (Sum.inl ((1 : Int32), q1)))))))
noncomputable def d_X10_readPlace_l49s (x0 : Nat) : (Int32 × dc_M) → Option ((Int32 × dc_M) ⊕ dc_M) := fun s => d_X10_readPlace_l49b x0 s.1 s.2
noncomputable def d_X10_readPlace_l49 (x0 : Nat) (x1 : Int32) (m : dc_M) : Option dc_M := dc_lp (d_X10_readPlace_l49s x0) (x1, m)
set_option maxHeartbeats 8000000 in
theorem k_X10_readPlace_l49 {u : Nat} {Φ : (Option dc_M) → Option Value → dc_M → Prop} (x0 : Nat) (kR : ∀  (m : dc_M), Φ (some (m)) (none) m) : ∀ (N : Nat), ∀ (x1 : Int32) (m : dc_M) (lv : ab_L), ab_lk lv 0 = some (.ref x0) → ab_lk lv 1 = some (.int x1) → dc_pv u N ab_M_X10_readPlace 49 lv [] m (Φ (d_X10_readPlace_l49 x0 x1 m)) := by
  intro N
  induction N with
  | zero => intros; exact dc_pv_zero
  | succ N ih =>
    intro x1 m lv f0 f1
    refine dc_ok (C := C_X10_readPlace) (S := S_X10_readPlace) CO_X10_readPlace 400 49 [(0, .ref x0), (1, .int x1)] lv [] m (dc_sub_cons f0 (dc_sub_cons f1 (dc_sub_nil))) ?_
    unfold d_X10_readPlace_l49
    rw [dc_lp_eq]
    show (fun t x => dc_lf u N ab_M_X10_readPlace (Φ (Option.bind t (dc_bk (d_X10_readPlace_l49s x0)))) x) (d_X10_readPlace_l49b x0 x1 m) _
    dsimp only
    unfold d_X10_readPlace_l49b
    refine dg_s (pc' := 50) [.ref x0] rfl (fun _ => rfl) rfl ?_
    refine dg_s (pc' := 53) [.int (m.1 x0 15)] rfl (fun _ => rfl) rfl ?_
    refine dw_if (fun t => Φ (Option.bind t (dc_bk (d_X10_readPlace_l49s x0)))) (¬ (Int32.toInt (m.1 x0 15)) = 0) [] 82 56 rfl (fun _ => rfl) (fun c0 => ?_) (fun c0 => ?_)
    · exact dw_j rfl (fun lv1 hv => k_X10_readPlace_b82 (Φ := (fun t => Φ (Option.bind (t.map (fun z => Sum.inr (z))) (dc_bk (d_X10_readPlace_l49s x0))))) x0 m (fun _b => kR _b)  (hv.1 _ rfl))
    · refine dw_g rfl ?_
      refine dg_s (pc' := 57) [.int x1] rfl (fun _ => rfl) rfl ?_
      refine dw_if (fun t => Φ (Option.bind t (dc_bk (d_X10_readPlace_l49s x0)))) ((Int32.toInt x1) = 0) [] 82 60 rfl (fun _ => rfl) (fun c1 => ?_) (fun c1 => ?_)
      · exact dw_j rfl (fun lv1 hv => k_X10_readPlace_b82 (Φ := (fun t => Φ (Option.bind (t.map (fun z => Sum.inr (z))) (dc_bk (d_X10_readPlace_l49s x0))))) x0 m (fun _b => kR _b)  (hv.1 _ rfl))
      · refine dw_g rfl ?_
        refine dg_s (pc' := 61) [.ref x0] rfl (fun _ => rfl) rfl ?_
        refine dg_s (pc' := 62) [.int (0 : Int32), .ref x0] rfl (fun _ => rfl) rfl ?_
        refine dw_b (fun t => Φ (Option.bind t (dc_bk (d_X10_readPlace_l49s x0)))) (pc' := 65) (fun q1 => []) (fun q1 => q1) rfl (fun _ => rfl) (fun q1 => ?_)
        refine dw_g rfl ?_
        refine dg_s (pc' := 66) [.ref x0] rfl (fun _ => rfl) rfl ?_
        refine dg_s (pc' := 69) [.int (q1.1 x0 19)] rfl (fun _ => rfl) rfl ?_
        refine dg_s (pc' := 70) [.int (2 : Int32), .int (q1.1 x0 19)] rfl (fun _ => rfl) rfl ?_
        refine dw_if (fun t => Φ (Option.bind t (dc_bk (d_X10_readPlace_l49s x0)))) ((Int32.toInt (q1.1 x0 19)) = 2) [] 77 73 rfl (fun _ => rfl) (fun c2 => ?_) (fun c2 => ?_)
        · refine dw_g rfl ?_
          refine dg_s (pc' := 78) [.int (0 : Int32)] rfl (fun _ => rfl) rfl ?_
          refine dg_L (pc' := 79) [(1, .int (0 : Int32)), (0, .ref x0)] [] rfl (fun _ => rfl) rfl ?_
          refine dw_s (pc' := 49) [] rfl (fun _ => rfl) ?_
          exact dw_j rfl (fun lv1 hv => ih (0 : Int32) q1 lv1 (hv.1 _ rfl) (hv.2.1 _ rfl))
        · refine dw_g rfl ?_
          refine dg_s (pc' := 74) [.int (1 : Int32)] rfl (fun _ => rfl) rfl ?_
          refine dg_s (pc' := 78) [.int (1 : Int32)] rfl (fun _ => rfl) rfl ?_
          refine dg_L (pc' := 79) [(1, .int (1 : Int32)), (0, .ref x0)] [] rfl (fun _ => rfl) rfl ?_
          refine dw_s (pc' := 49) [] rfl (fun _ => rfl) ?_
          exact dw_j rfl (fun lv1 hv => ih (1 : Int32) q1 lv1 (hv.1 _ rfl) (hv.2.1 _ rfl))
noncomputable def d_X10_readPlace_b43 (x0 : Nat) (m : dc_M) : Option dc_M :=
  ((d_X10_next x0 m).bind (fun q1 => (d_X10_readPlace_l49 x0 (1 : Int32) q1)))
set_option maxHeartbeats 8000000 in
theorem k_X10_readPlace_b43 {u : Nat} {N : Nat} {Φ : (Option dc_M) → Option Value → dc_M → Prop} (x0 : Nat) (m : dc_M) (kR : ∀  (m : dc_M), Φ (some (m)) (none) m)  {lv : ab_L} (f0 : ab_lk lv 0 = some (.ref x0)) : dc_pv u N ab_M_X10_readPlace 43 lv [] m (Φ (d_X10_readPlace_b43 x0 m)) := by
  refine dc_pv.mono (dc_ok (C := C_X10_readPlace) (S := S_X10_readPlace) CO_X10_readPlace 400 43 [(0, .ref x0)] lv [] m (dc_sub_cons f0 (dc_sub_nil)) ?_) (Nat.le_succ N)
  unfold d_X10_readPlace_b43
  refine dg_s (pc' := 44) [.ref x0] rfl (fun _ => rfl) rfl ?_
  refine dw_b (fun t => Φ t) (pc' := 47) (fun q1 => []) (fun q1 => q1) rfl (fun _ => rfl) (fun q1 => ?_)
  refine dw_g rfl ?_
  refine dg_s (pc' := 48) [.int (1 : Int32)] rfl (fun _ => rfl) rfl ?_
  refine dw_L (pc' := 49) [(1, .int (1 : Int32)), (0, .ref x0)] [] rfl (fun _ => rfl) ?_
  exact dw_j rfl (fun lv1 hv => k_X10_readPlace_l49 (Φ := (fun t => Φ t)) x0 (fun _b => kR _b) N  (1 : Int32) q1 lv1 (hv.1 _ rfl) (hv.2.1 _ rfl))
noncomputable def d_X10_readPlace_l19b (x0 : Nat)  (m : dc_M) : Option (dc_M ⊕ dc_M) :=
  (if ¬ (Int32.toInt (m.1 x0 15)) = 0 then ((d_X10_readPlace_b43 x0 m).map (fun z => Sum.inr (z))) else (if ¬ (Int32.toInt (d_X10_isSign x0 (62 : Int32) m)) = 0 then ((d_X10_readPlace_b43 x0 m).map (fun z => Sum.inr (z))) else ((d_X10_readEvent x0 (1 : Int32) m).bind (fun q1 => some (Sum.inl q1)))))
noncomputable def d_X10_readPlace_l19s (x0 : Nat) : dc_M → Option (dc_M ⊕ dc_M) := fun s => d_X10_readPlace_l19b x0 s
noncomputable def d_X10_readPlace_l19 (x0 : Nat)  (m : dc_M) : Option dc_M := dc_lp (d_X10_readPlace_l19s x0) m
set_option maxHeartbeats 8000000 in
theorem k_X10_readPlace_l19 {u : Nat} {Φ : (Option dc_M) → Option Value → dc_M → Prop} (x0 : Nat) (kR : ∀  (m : dc_M), Φ (some (m)) (none) m) : ∀ (N : Nat), ∀  (m : dc_M) (lv : ab_L), ab_lk lv 0 = some (.ref x0) → dc_pv u N ab_M_X10_readPlace 19 lv [] m (Φ (d_X10_readPlace_l19 x0  m)) := by
  intro N
  induction N with
  | zero => intros; exact dc_pv_zero
  | succ N ih =>
    intro m lv f0
    refine dc_ok (C := C_X10_readPlace) (S := S_X10_readPlace) CO_X10_readPlace 400 19 [(0, .ref x0)] lv [] m (dc_sub_cons f0 (dc_sub_nil)) ?_
    unfold d_X10_readPlace_l19
    rw [dc_lp_eq]
    show (fun t x => dc_lf u N ab_M_X10_readPlace (Φ (Option.bind t (dc_bk (d_X10_readPlace_l19s x0)))) x) (d_X10_readPlace_l19b x0  m) _
    dsimp only
    unfold d_X10_readPlace_l19b
    refine dg_s (pc' := 20) [.ref x0] rfl (fun _ => rfl) rfl ?_
    refine dg_s (pc' := 23) [.int (m.1 x0 15)] rfl (fun _ => rfl) rfl ?_
    refine dw_if (fun t => Φ (Option.bind t (dc_bk (d_X10_readPlace_l19s x0)))) (¬ (Int32.toInt (m.1 x0 15)) = 0) [] 43 26 rfl (fun _ => rfl) (fun c0 => ?_) (fun c0 => ?_)
    · exact dw_j rfl (fun lv1 hv => k_X10_readPlace_b43 (Φ := (fun t => Φ (Option.bind (t.map (fun z => Sum.inr (z))) (dc_bk (d_X10_readPlace_l19s x0))))) x0 m (fun _b => kR _b)  (hv.1 _ rfl))
    · refine dw_g rfl ?_
      refine dg_s (pc' := 27) [.ref x0] rfl (fun _ => rfl) rfl ?_
      refine dg_s (pc' := 29) [.int (62 : Int32), .ref x0] rfl (fun _ => rfl) rfl ?_
      refine dg_s (pc' := 32) [.int (d_X10_isSign x0 (62 : Int32) m)] rfl (fun _ => rfl) rfl ?_
      refine dw_if (fun t => Φ (Option.bind t (dc_bk (d_X10_readPlace_l19s x0)))) (¬ (Int32.toInt (d_X10_isSign x0 (62 : Int32) m)) = 0) [] 43 35 rfl (fun _ => rfl) (fun c1 => ?_) (fun c1 => ?_)
      · exact dw_j rfl (fun lv1 hv => k_X10_readPlace_b43 (Φ := (fun t => Φ (Option.bind (t.map (fun z => Sum.inr (z))) (dc_bk (d_X10_readPlace_l19s x0))))) x0 m (fun _b => kR _b)  (hv.1 _ rfl))
      · refine dw_g rfl ?_
        refine dg_s (pc' := 36) [.ref x0] rfl (fun _ => rfl) rfl ?_
        refine dg_s (pc' := 37) [.int (1 : Int32), .ref x0] rfl (fun _ => rfl) rfl ?_
        refine dw_b (fun t => Φ (Option.bind t (dc_bk (d_X10_readPlace_l19s x0)))) (pc' := 40) (fun q1 => []) (fun q1 => q1) rfl (fun _ => rfl) (fun q1 => ?_)
        refine dw_g rfl ?_
        refine dw_s (pc' := 19) [] rfl (fun _ => rfl) ?_
        exact dw_j rfl (fun lv1 hv => ih q1 lv1 (hv.1 _ rfl))
noncomputable def d_X10_readPlace_b15 (x0 : Nat) (m : dc_M) : Option dc_M :=
  ((d_X10_next x0 m).bind (fun q1 => (d_X10_readPlace_l19 x0 q1)))
set_option maxHeartbeats 8000000 in
theorem k_X10_readPlace_b15 {u : Nat} {N : Nat} {Φ : (Option dc_M) → Option Value → dc_M → Prop} (x0 : Nat) (m : dc_M) (kR : ∀  (m : dc_M), Φ (some (m)) (none) m)  {lv : ab_L} (f0 : ab_lk lv 0 = some (.ref x0)) : dc_pv u N ab_M_X10_readPlace 15 lv [] m (Φ (d_X10_readPlace_b15 x0 m)) := by
  refine dc_pv.mono (dc_ok (C := C_X10_readPlace) (S := S_X10_readPlace) CO_X10_readPlace 400 15 [(0, .ref x0)] lv [] m (dc_sub_cons f0 (dc_sub_nil)) ?_) (Nat.le_succ N)
  unfold d_X10_readPlace_b15
  refine dg_s (pc' := 16) [.ref x0] rfl (fun _ => rfl) rfl ?_
  refine dw_b (fun t => Φ t) (pc' := 19) (fun q1 => []) (fun q1 => q1) rfl (fun _ => rfl) (fun q1 => ?_)
  exact dw_j rfl (fun lv1 hv => k_X10_readPlace_l19 (Φ := (fun t => Φ t)) x0 (fun _b => kR _b) N   q1 lv1 (hv.1 _ rfl))
noncomputable def d_X10_readPlace (x0 : Nat) (m : dc_M) : Option dc_M :=
  (if ¬ (Int32.toInt (m.1 x0 30)) = 20 then (d_X10_readPlace_b15 x0 m) else (dc_let (d_X10_fails x0 (6 : Int32) m) (fun q1 => (d_X10_readPlace_b15 x0 q1))))
set_option maxHeartbeats 8000000 in
theorem k_X10_readPlace {u : Nat} {N : Nat} {Φ : (Option dc_M) → Option Value → dc_M → Prop} (x0 : Nat) (m : dc_M) (kR : ∀  (m : dc_M), Φ (some (m)) (none) m)  {lv : ab_L} (f0 : ab_lk lv 0 = some (.ref x0)) : dc_pv u N ab_M_X10_readPlace 0 lv [] m (Φ (d_X10_readPlace x0 m)) := by
  refine dc_pv.mono (dc_ok (C := C_X10_readPlace) (S := S_X10_readPlace) CO_X10_readPlace 400 0 [(0, .ref x0)] lv [] m (dc_sub_cons f0 (dc_sub_nil)) ?_) (Nat.le_succ N)
  unfold d_X10_readPlace
  refine dg_s (pc' := 1) [.ref x0] rfl (fun _ => rfl) rfl ?_
  refine dg_s (pc' := 4) [.int (m.1 x0 30)] rfl (fun _ => rfl) rfl ?_
  refine dg_s (pc' := 6) [.int (20 : Int32), .int (m.1 x0 30)] rfl (fun _ => rfl) rfl ?_
  refine dw_if (fun t => Φ t) (¬ (Int32.toInt (m.1 x0 30)) = 20) [] 15 9 rfl (fun _ => rfl) (fun c0 => ?_) (fun c0 => ?_)
  · exact dw_j rfl (fun lv1 hv => k_X10_readPlace_b15 (Φ := (fun t => Φ t)) x0 m (fun _b => kR _b)  (hv.1 _ rfl))
  · refine dw_g rfl ?_
    refine dg_s (pc' := 10) [.ref x0] rfl (fun _ => rfl) rfl ?_
    refine dg_s (pc' := 12) [.int (6 : Int32), .ref x0] rfl (fun _ => rfl) rfl ?_
    refine dw_l (fun t => Φ t) (pc' := 15) (fun q1 => []) (fun q1 => q1) rfl (fun _ => rfl) (fun q1 => ?_)
    exact dw_j rfl (fun lv1 hv => k_X10_readPlace_b15 (Φ := (fun t => Φ t)) x0 q1 (fun _b => kR _b)  (hv.1 _ rfl))
noncomputable def H_X10_readPlace : dc_H := fun As m k => match As with
  | [.ref x0] => (d_X10_readPlace x0 m).bind (fun q => k (none) q)
  | _ => dc_kz
theorem H_X10_readPlace_ok {u : Nat} : dc_cok u 158 H_X10_readPlace := fun M' hG N As m k P hz hP => by
  obtain rfl : ab_M_X10_readPlace = M' := Option.some.inj hG
  unfold H_X10_readPlace at hP
  split at hP
  · rename_i x0
    exact dc_pv.imp (k_X10_readPlace (Φ := fun (t : Option dc_M) r m' => P (t.bind (fun q => k (none) q)) → P (k r m')) x0 m (fun _ h => h) rfl) (fun r m' h => h hP)
  · exact absurd hP hz
noncomputable def C_X10_readWire : List (Nat × dc_H) := [(151, H_X10_fails), (154, H_X10_isLetter), (152, H_X10_next), (155, H_X10_wireAt)]
theorem CO_X10_readWire {u : Nat} : dc_CO u C_X10_readWire := dc_CO_cons H_X10_fails_ok (dc_CO_cons H_X10_isLetter_ok (dc_CO_cons H_X10_next_ok (dc_CO_cons H_X10_wireAt_ok (dc_CO_nil))))
def S_X10_readWire : List (Nat × List Nat) := [(15, [0, 1]), (41, [0, 1]), (68, [0, 1])]
noncomputable def d_X10_readWire_b68 (x0 : Nat) (x1 : Int32) (m : dc_M) : Option dc_M :=
  (if (Int32.toInt (m.1 x0 15)) ≤ 0 then ((d_X10_next x0 (dc_wi (dc_wi (dc_wi m (x0 + 10) (Int32.toNatClampNeg (m.1 x0 21)) ((m.1 x0 20) - (1 : Int32))) (x0 + 11) (Int32.toNatClampNeg ((dc_wi m (x0 + 10) (Int32.toNatClampNeg (m.1 x0 21)) ((m.1 x0 20) - (1 : Int32))).1 x0 21)) x1) x0 21 (((dc_wi (dc_wi m (x0 + 10) (Int32.toNatClampNeg (m.1 x0 21)) ((m.1 x0 20) - (1 : Int32))) (x0 + 11) (Int32.toNatClampNeg ((dc_wi m (x0 + 10) (Int32.toNatClampNeg (m.1 x0 21)) ((m.1 x0 20) - (1 : Int32))).1 x0 21)) x1).1 x0 21) + (1 : Int32)))).bind (fun q1 => some (q1))) else some (m))
set_option maxHeartbeats 8000000 in
theorem k_X10_readWire_b68 {u : Nat} {N : Nat} {Φ : (Option dc_M) → Option Value → dc_M → Prop} (x0 : Nat) (x1 : Int32) (m : dc_M) (kR : ∀  (m : dc_M), Φ (some (m)) (none) m)  {lv : ab_L} (f0 : ab_lk lv 0 = some (.ref x0)) (f1 : ab_lk lv 1 = some (.int x1)) : dc_pv u N ab_M_X10_readWire 68 lv [] m (Φ (d_X10_readWire_b68 x0 x1 m)) := by
  refine dc_pv.mono (dc_ok (C := C_X10_readWire) (S := S_X10_readWire) CO_X10_readWire 400 68 [(0, .ref x0), (1, .int x1)] lv [] m (dc_sub_cons f0 (dc_sub_cons f1 (dc_sub_nil))) ?_) (Nat.le_succ N)
  unfold d_X10_readWire_b68
  refine dg_s (pc' := 69) [.ref x0] rfl (fun _ => rfl) rfl ?_
  refine dg_s (pc' := 72) [.int (m.1 x0 15)] rfl (fun _ => rfl) rfl ?_
  refine dw_if (fun t => Φ t) ((Int32.toInt (m.1 x0 15)) ≤ 0) [] 76 75 rfl (fun _ => rfl) (fun c0 => ?_) (fun c0 => ?_)
  · refine dw_g rfl ?_
    refine dg_s (pc' := 77) [.ref x0] rfl (fun _ => rfl) rfl ?_
    refine dg_s (pc' := 80) [.ref (x0 + 10)] rfl (fun _ => rfl) rfl ?_
    refine dg_s (pc' := 81) [.ref x0, .ref (x0 + 10)] rfl (fun _ => rfl) rfl ?_
    refine dg_s (pc' := 84) [.int (m.1 x0 21), .ref (x0 + 10)] rfl (fun _ => rfl) rfl ?_
    refine dg_s (pc' := 85) [.ref x0, .int (m.1 x0 21), .ref (x0 + 10)] rfl (fun _ => rfl) rfl ?_
    refine dg_s (pc' := 88) [.int (m.1 x0 20), .int (m.1 x0 21), .ref (x0 + 10)] rfl (fun _ => rfl) rfl ?_
    refine dg_s (pc' := 89) [.int (1 : Int32), .int (m.1 x0 20), .int (m.1 x0 21), .ref (x0 + 10)] rfl (fun _ => rfl) rfl ?_
    refine dg_s (pc' := 90) [.int ((m.1 x0 20) - (1 : Int32)), .int (m.1 x0 21), .ref (x0 + 10)] rfl (fun _ => rfl) rfl ?_
    refine dg_m (pc' := 91) (dc_wi m (x0 + 10) (Int32.toNatClampNeg (m.1 x0 21)) ((m.1 x0 20) - (1 : Int32))) [] rfl (fun _ => rfl) rfl ?_
    refine dg_s (pc' := 92) [.ref x0] rfl (fun _ => rfl) rfl ?_
    refine dg_s (pc' := 95) [.ref (x0 + 11)] rfl (fun _ => rfl) rfl ?_
    refine dg_s (pc' := 96) [.ref x0, .ref (x0 + 11)] rfl (fun _ => rfl) rfl ?_
    refine dg_s (pc' := 99) [.int ((dc_wi m (x0 + 10) (Int32.toNatClampNeg (m.1 x0 21)) ((m.1 x0 20) - (1 : Int32))).1 x0 21), .ref (x0 + 11)] rfl (fun _ => rfl) rfl ?_
    refine dg_s (pc' := 100) [.int x1, .int ((dc_wi m (x0 + 10) (Int32.toNatClampNeg (m.1 x0 21)) ((m.1 x0 20) - (1 : Int32))).1 x0 21), .ref (x0 + 11)] rfl (fun _ => rfl) rfl ?_
    refine dg_m (pc' := 101) (dc_wi (dc_wi m (x0 + 10) (Int32.toNatClampNeg (m.1 x0 21)) ((m.1 x0 20) - (1 : Int32))) (x0 + 11) (Int32.toNatClampNeg ((dc_wi m (x0 + 10) (Int32.toNatClampNeg (m.1 x0 21)) ((m.1 x0 20) - (1 : Int32))).1 x0 21)) x1) [] rfl (fun _ => rfl) rfl ?_
    refine dg_s (pc' := 102) [.ref x0] rfl (fun _ => rfl) rfl ?_
    refine dg_s (pc' := 103) [.ref x0, .ref x0] rfl (fun _ => rfl) rfl ?_
    refine dg_s (pc' := 106) [.int ((dc_wi (dc_wi m (x0 + 10) (Int32.toNatClampNeg (m.1 x0 21)) ((m.1 x0 20) - (1 : Int32))) (x0 + 11) (Int32.toNatClampNeg ((dc_wi m (x0 + 10) (Int32.toNatClampNeg (m.1 x0 21)) ((m.1 x0 20) - (1 : Int32))).1 x0 21)) x1).1 x0 21), .ref x0] rfl (fun _ => rfl) rfl ?_
    refine dg_s (pc' := 107) [.int (1 : Int32), .int ((dc_wi (dc_wi m (x0 + 10) (Int32.toNatClampNeg (m.1 x0 21)) ((m.1 x0 20) - (1 : Int32))) (x0 + 11) (Int32.toNatClampNeg ((dc_wi m (x0 + 10) (Int32.toNatClampNeg (m.1 x0 21)) ((m.1 x0 20) - (1 : Int32))).1 x0 21)) x1).1 x0 21), .ref x0] rfl (fun _ => rfl) rfl ?_
    refine dg_s (pc' := 108) [.int (((dc_wi (dc_wi m (x0 + 10) (Int32.toNatClampNeg (m.1 x0 21)) ((m.1 x0 20) - (1 : Int32))) (x0 + 11) (Int32.toNatClampNeg ((dc_wi m (x0 + 10) (Int32.toNatClampNeg (m.1 x0 21)) ((m.1 x0 20) - (1 : Int32))).1 x0 21)) x1).1 x0 21) + (1 : Int32)), .ref x0] rfl (fun _ => rfl) rfl ?_
    refine dg_m (pc' := 111) (dc_wi (dc_wi (dc_wi m (x0 + 10) (Int32.toNatClampNeg (m.1 x0 21)) ((m.1 x0 20) - (1 : Int32))) (x0 + 11) (Int32.toNatClampNeg ((dc_wi m (x0 + 10) (Int32.toNatClampNeg (m.1 x0 21)) ((m.1 x0 20) - (1 : Int32))).1 x0 21)) x1) x0 21 (((dc_wi (dc_wi m (x0 + 10) (Int32.toNatClampNeg (m.1 x0 21)) ((m.1 x0 20) - (1 : Int32))) (x0 + 11) (Int32.toNatClampNeg ((dc_wi m (x0 + 10) (Int32.toNatClampNeg (m.1 x0 21)) ((m.1 x0 20) - (1 : Int32))).1 x0 21)) x1).1 x0 21) + (1 : Int32))) [] rfl (fun _ => rfl) rfl ?_
    refine dg_s (pc' := 112) [.ref x0] rfl (fun _ => rfl) rfl ?_
    refine dw_b (fun t => Φ t) (pc' := 115) (fun q1 => []) (fun q1 => q1) rfl (fun _ => rfl) (fun q1 => ?_)
    refine dw_g rfl ?_
    exact dw_r (some (.inl (none, q1))) rfl (fun _ => rfl) (kR _)
  · refine dw_g rfl ?_
    exact dw_r (some (.inl (none, m))) rfl (fun _ => rfl) (kR _)
noncomputable def d_X10_readWire_b41 (x0 : Nat) (x1 : Int32) (m : dc_M) : Option dc_M :=
  (if ¬ (Int32.toInt (m.1 x0 15)) = 0 then (d_X10_readWire_b68 x0 x1 m) else ((d_X10_wireAt x0 ((m.1 x0 20) - (1 : Int32)) m).bind (fun q1 => (if (Int32.toInt q1) = (-4) then (d_X10_readWire_b68 x0 x1 m) else (dc_let (d_X10_fails x0 (4 : Int32) m) (fun q2 => (d_X10_readWire_b68 x0 x1 q2)))))))
set_option maxHeartbeats 8000000 in
theorem k_X10_readWire_b41 {u : Nat} {N : Nat} {Φ : (Option dc_M) → Option Value → dc_M → Prop} (x0 : Nat) (x1 : Int32) (m : dc_M) (kR : ∀  (m : dc_M), Φ (some (m)) (none) m)  {lv : ab_L} (f0 : ab_lk lv 0 = some (.ref x0)) (f1 : ab_lk lv 1 = some (.int x1)) : dc_pv u N ab_M_X10_readWire 41 lv [] m (Φ (d_X10_readWire_b41 x0 x1 m)) := by
  refine dc_pv.mono (dc_ok (C := C_X10_readWire) (S := S_X10_readWire) CO_X10_readWire 400 41 [(0, .ref x0), (1, .int x1)] lv [] m (dc_sub_cons f0 (dc_sub_cons f1 (dc_sub_nil))) ?_) (Nat.le_succ N)
  unfold d_X10_readWire_b41
  refine dg_s (pc' := 42) [.ref x0] rfl (fun _ => rfl) rfl ?_
  refine dg_s (pc' := 45) [.int (m.1 x0 15)] rfl (fun _ => rfl) rfl ?_
  refine dw_if (fun t => Φ t) (¬ (Int32.toInt (m.1 x0 15)) = 0) [] 68 48 rfl (fun _ => rfl) (fun c0 => ?_) (fun c0 => ?_)
  · exact dw_j rfl (fun lv1 hv => k_X10_readWire_b68 (Φ := (fun t => Φ t)) x0 x1 m (fun _b => kR _b)  (hv.1 _ rfl) (hv.2.1 _ rfl))
  · refine dw_g rfl ?_
    refine dg_s (pc' := 49) [.ref x0] rfl (fun _ => rfl) rfl ?_
    refine dg_s (pc' := 50) [.ref x0, .ref x0] rfl (fun _ => rfl) rfl ?_
    refine dg_s (pc' := 53) [.int (m.1 x0 20), .ref x0] rfl (fun _ => rfl) rfl ?_
    refine dg_s (pc' := 54) [.int (1 : Int32), .int (m.1 x0 20), .ref x0] rfl (fun _ => rfl) rfl ?_
    refine dg_s (pc' := 55) [.int ((m.1 x0 20) - (1 : Int32)), .ref x0] rfl (fun _ => rfl) rfl ?_
    refine dw_b (fun t => Φ t) (pc' := 58) (fun q1 => [.int q1]) (fun q1 => m) rfl (fun _ => rfl) (fun q1 => ?_)
    refine dw_g rfl ?_
    refine dg_s (pc' := 60) [.int (-4 : Int32), .int q1] rfl (fun _ => rfl) rfl ?_
    refine dw_if (fun t => Φ t) ((Int32.toInt q1) = (-4)) [] 68 63 rfl (fun _ => rfl) (fun c1 => ?_) (fun c1 => ?_)
    · exact dw_j rfl (fun lv1 hv => k_X10_readWire_b68 (Φ := (fun t => Φ t)) x0 x1 m (fun _b => kR _b)  (hv.1 _ rfl) (hv.2.1 _ rfl))
    · refine dw_g rfl ?_
      refine dg_s (pc' := 64) [.ref x0] rfl (fun _ => rfl) rfl ?_
      refine dg_s (pc' := 65) [.int (4 : Int32), .ref x0] rfl (fun _ => rfl) rfl ?_
      refine dw_l (fun t => Φ t) (pc' := 68) (fun q2 => []) (fun q2 => q2) rfl (fun _ => rfl) (fun q2 => ?_)
      exact dw_j rfl (fun lv1 hv => k_X10_readWire_b68 (Φ := (fun t => Φ t)) x0 x1 q2 (fun _b => kR _b)  (hv.1 _ rfl) (hv.2.1 _ rfl))
noncomputable def d_X10_readWire_b15 (x0 : Nat) (x1 : Int32) (m : dc_M) : Option dc_M :=
  ((d_X10_next x0 m).bind (fun q1 => (if ¬ (Int32.toInt (q1.1 x0 15)) = 0 then (d_X10_readWire_b41 x0 x1 q1) else (if ¬ (Int32.toInt (d_X10_isLetter x0 q1)) = 0 then (d_X10_readWire_b41 x0 x1 q1) else (dc_let (d_X10_fails x0 (2 : Int32) q1) (fun q2 => (d_X10_readWire_b68 x0 x1 q2)))))))
set_option maxHeartbeats 8000000 in
theorem k_X10_readWire_b15 {u : Nat} {N : Nat} {Φ : (Option dc_M) → Option Value → dc_M → Prop} (x0 : Nat) (x1 : Int32) (m : dc_M) (kR : ∀  (m : dc_M), Φ (some (m)) (none) m)  {lv : ab_L} (f0 : ab_lk lv 0 = some (.ref x0)) (f1 : ab_lk lv 1 = some (.int x1)) : dc_pv u N ab_M_X10_readWire 15 lv [] m (Φ (d_X10_readWire_b15 x0 x1 m)) := by
  refine dc_pv.mono (dc_ok (C := C_X10_readWire) (S := S_X10_readWire) CO_X10_readWire 400 15 [(0, .ref x0), (1, .int x1)] lv [] m (dc_sub_cons f0 (dc_sub_cons f1 (dc_sub_nil))) ?_) (Nat.le_succ N)
  unfold d_X10_readWire_b15
  refine dg_s (pc' := 16) [.ref x0] rfl (fun _ => rfl) rfl ?_
  refine dw_b (fun t => Φ t) (pc' := 19) (fun q1 => []) (fun q1 => q1) rfl (fun _ => rfl) (fun q1 => ?_)
  refine dw_g rfl ?_
  refine dg_s (pc' := 20) [.ref x0] rfl (fun _ => rfl) rfl ?_
  refine dg_s (pc' := 23) [.int (q1.1 x0 15)] rfl (fun _ => rfl) rfl ?_
  refine dw_if (fun t => Φ t) (¬ (Int32.toInt (q1.1 x0 15)) = 0) [] 41 26 rfl (fun _ => rfl) (fun c0 => ?_) (fun c0 => ?_)
  · exact dw_j rfl (fun lv1 hv => k_X10_readWire_b41 (Φ := (fun t => Φ t)) x0 x1 q1 (fun _b => kR _b)  (hv.1 _ rfl) (hv.2.1 _ rfl))
  · refine dw_g rfl ?_
    refine dg_s (pc' := 27) [.ref x0] rfl (fun _ => rfl) rfl ?_
    refine dg_s (pc' := 30) [.int (d_X10_isLetter x0 q1)] rfl (fun _ => rfl) rfl ?_
    refine dw_if (fun t => Φ t) (¬ (Int32.toInt (d_X10_isLetter x0 q1)) = 0) [] 41 33 rfl (fun _ => rfl) (fun c1 => ?_) (fun c1 => ?_)
    · exact dw_j rfl (fun lv1 hv => k_X10_readWire_b41 (Φ := (fun t => Φ t)) x0 x1 q1 (fun _b => kR _b)  (hv.1 _ rfl) (hv.2.1 _ rfl))
    · refine dw_g rfl ?_
      refine dg_s (pc' := 34) [.ref x0] rfl (fun _ => rfl) rfl ?_
      refine dg_s (pc' := 35) [.int (2 : Int32), .ref x0] rfl (fun _ => rfl) rfl ?_
      refine dw_l (fun t => Φ t) (pc' := 38) (fun q2 => []) (fun q2 => q2) rfl (fun _ => rfl) (fun q2 => ?_)
      refine dw_g rfl ?_
      refine dw_s (pc' := 68) [] rfl (fun _ => rfl) ?_
      exact dw_j rfl (fun lv1 hv => k_X10_readWire_b68 (Φ := (fun t => Φ t)) x0 x1 q2 (fun _b => kR _b)  (hv.1 _ rfl) (hv.2.1 _ rfl))
noncomputable def d_X10_readWire (x0 : Nat) (x1 : Int32) (m : dc_M) : Option dc_M :=
  (if ¬ (Int32.toInt (m.1 x0 21)) = 6 then (d_X10_readWire_b15 x0 x1 m) else (dc_let (d_X10_fails x0 (6 : Int32) m) (fun q1 => (d_X10_readWire_b15 x0 x1 q1))))
set_option maxHeartbeats 8000000 in
theorem k_X10_readWire {u : Nat} {N : Nat} {Φ : (Option dc_M) → Option Value → dc_M → Prop} (x0 : Nat) (x1 : Int32) (m : dc_M) (kR : ∀  (m : dc_M), Φ (some (m)) (none) m)  {lv : ab_L} (f0 : ab_lk lv 0 = some (.ref x0)) (f1 : ab_lk lv 1 = some (.int x1)) : dc_pv u N ab_M_X10_readWire 0 lv [] m (Φ (d_X10_readWire x0 x1 m)) := by
  refine dc_pv.mono (dc_ok (C := C_X10_readWire) (S := S_X10_readWire) CO_X10_readWire 400 0 [(0, .ref x0), (1, .int x1)] lv [] m (dc_sub_cons f0 (dc_sub_cons f1 (dc_sub_nil))) ?_) (Nat.le_succ N)
  unfold d_X10_readWire
  refine dg_s (pc' := 1) [.ref x0] rfl (fun _ => rfl) rfl ?_
  refine dg_s (pc' := 4) [.int (m.1 x0 21)] rfl (fun _ => rfl) rfl ?_
  refine dg_s (pc' := 6) [.int (6 : Int32), .int (m.1 x0 21)] rfl (fun _ => rfl) rfl ?_
  refine dw_if (fun t => Φ t) (¬ (Int32.toInt (m.1 x0 21)) = 6) [] 15 9 rfl (fun _ => rfl) (fun c0 => ?_) (fun c0 => ?_)
  · exact dw_j rfl (fun lv1 hv => k_X10_readWire_b15 (Φ := (fun t => Φ t)) x0 x1 m (fun _b => kR _b)  (hv.1 _ rfl) (hv.2.1 _ rfl))
  · refine dw_g rfl ?_
    refine dg_s (pc' := 10) [.ref x0] rfl (fun _ => rfl) rfl ?_
    refine dg_s (pc' := 12) [.int (6 : Int32), .ref x0] rfl (fun _ => rfl) rfl ?_
    refine dw_l (fun t => Φ t) (pc' := 15) (fun q1 => []) (fun q1 => q1) rfl (fun _ => rfl) (fun q1 => ?_)
    exact dw_j rfl (fun lv1 hv => k_X10_readWire_b15 (Φ := (fun t => Φ t)) x0 x1 q1 (fun _b => kR _b)  (hv.1 _ rfl) (hv.2.1 _ rfl))
noncomputable def H_X10_readWire : dc_H := fun As m k => match As with
  | [.ref x0, .int x1] => (d_X10_readWire x0 x1 m).bind (fun q => k (none) q)
  | _ => dc_kz
theorem H_X10_readWire_ok {u : Nat} : dc_cok u 156 H_X10_readWire := fun M' hG N As m k P hz hP => by
  obtain rfl : ab_M_X10_readWire = M' := Option.some.inj hG
  unfold H_X10_readWire at hP
  split at hP
  · rename_i x0 x1
    exact dc_pv.imp (k_X10_readWire (Φ := fun (t : Option dc_M) r m' => P (t.bind (fun q => k (none) q)) → P (k r m')) x0 x1 m (fun _ h => h) rfl rfl) (fun r m' h => h hP)
  · exact absurd hP hz
noncomputable def C_X10_readLine : List (Nat × dc_H) := [(151, H_X10_fails), (153, H_X10_isSign), (152, H_X10_next), (158, H_X10_readPlace), (156, H_X10_readWire)]
theorem CO_X10_readLine {u : Nat} : dc_CO u C_X10_readLine := dc_CO_cons H_X10_fails_ok (dc_CO_cons H_X10_isSign_ok (dc_CO_cons H_X10_next_ok (dc_CO_cons H_X10_readPlace_ok (dc_CO_cons H_X10_readWire_ok (dc_CO_nil)))))
def S_X10_readLine : List (Nat × List Nat) := [(13, [0]), (34, [0, 1]), (67, [0]), (97, [0]), (108, [0]), (129, [0])]
noncomputable def d_X10_readLine_b129 (x0 : Nat) (m : dc_M) : Option dc_M :=
  ((d_X10_next x0 m).bind (fun q1 => some (q1)))
set_option maxHeartbeats 8000000 in
theorem k_X10_readLine_b129 {u : Nat} {N : Nat} {Φ : (Option dc_M) → Option Value → dc_M → Prop} (x0 : Nat) (m : dc_M) (kR : ∀  (m : dc_M), Φ (some (m)) (none) m)  {lv : ab_L} (f0 : ab_lk lv 0 = some (.ref x0)) : dc_pv u N ab_M_X10_readLine 129 lv [] m (Φ (d_X10_readLine_b129 x0 m)) := by
  refine dc_pv.mono (dc_ok (C := C_X10_readLine) (S := S_X10_readLine) CO_X10_readLine 400 129 [(0, .ref x0)] lv [] m (dc_sub_cons f0 (dc_sub_nil)) ?_) (Nat.le_succ N)
  unfold d_X10_readLine_b129
  refine dg_s (pc' := 130) [.ref x0] rfl (fun _ => rfl) rfl ?_
  refine dw_b (fun t => Φ t) (pc' := 133) (fun q1 => []) (fun q1 => q1) rfl (fun _ => rfl) (fun q1 => ?_)
  refine dw_g rfl ?_
  exact dw_r (some (.inl (none, q1))) rfl (fun _ => rfl) (kR _)
noncomputable def d_X10_readLine_b108 (x0 : Nat) (m : dc_M) : Option dc_M :=
  (if ¬ (Int32.toInt (m.1 x0 15)) = 0 then (d_X10_readLine_b129 x0 m) else (if ¬ (Int32.toInt (d_X10_isSign x0 (59 : Int32) m)) = 0 then (d_X10_readLine_b129 x0 m) else (dc_let (d_X10_fails x0 (2 : Int32) m) (fun q1 => (d_X10_readLine_b129 x0 q1)))))
set_option maxHeartbeats 8000000 in
theorem k_X10_readLine_b108 {u : Nat} {N : Nat} {Φ : (Option dc_M) → Option Value → dc_M → Prop} (x0 : Nat) (m : dc_M) (kR : ∀  (m : dc_M), Φ (some (m)) (none) m)  {lv : ab_L} (f0 : ab_lk lv 0 = some (.ref x0)) : dc_pv u N ab_M_X10_readLine 108 lv [] m (Φ (d_X10_readLine_b108 x0 m)) := by
  refine dc_pv.mono (dc_ok (C := C_X10_readLine) (S := S_X10_readLine) CO_X10_readLine 400 108 [(0, .ref x0)] lv [] m (dc_sub_cons f0 (dc_sub_nil)) ?_) (Nat.le_succ N)
  unfold d_X10_readLine_b108
  refine dg_s (pc' := 109) [.ref x0] rfl (fun _ => rfl) rfl ?_
  refine dg_s (pc' := 112) [.int (m.1 x0 15)] rfl (fun _ => rfl) rfl ?_
  refine dw_if (fun t => Φ t) (¬ (Int32.toInt (m.1 x0 15)) = 0) [] 129 115 rfl (fun _ => rfl) (fun c0 => ?_) (fun c0 => ?_)
  · exact dw_j rfl (fun lv1 hv => k_X10_readLine_b129 (Φ := (fun t => Φ t)) x0 m (fun _b => kR _b)  (hv.1 _ rfl))
  · refine dw_g rfl ?_
    refine dg_s (pc' := 116) [.ref x0] rfl (fun _ => rfl) rfl ?_
    refine dg_s (pc' := 118) [.int (59 : Int32), .ref x0] rfl (fun _ => rfl) rfl ?_
    refine dg_s (pc' := 121) [.int (d_X10_isSign x0 (59 : Int32) m)] rfl (fun _ => rfl) rfl ?_
    refine dw_if (fun t => Φ t) (¬ (Int32.toInt (d_X10_isSign x0 (59 : Int32) m)) = 0) [] 129 124 rfl (fun _ => rfl) (fun c1 => ?_) (fun c1 => ?_)
    · exact dw_j rfl (fun lv1 hv => k_X10_readLine_b129 (Φ := (fun t => Φ t)) x0 m (fun _b => kR _b)  (hv.1 _ rfl))
    · refine dw_g rfl ?_
      refine dg_s (pc' := 125) [.ref x0] rfl (fun _ => rfl) rfl ?_
      refine dg_s (pc' := 126) [.int (2 : Int32), .ref x0] rfl (fun _ => rfl) rfl ?_
      refine dw_l (fun t => Φ t) (pc' := 129) (fun q1 => []) (fun q1 => q1) rfl (fun _ => rfl) (fun q1 => ?_)
      exact dw_j rfl (fun lv1 hv => k_X10_readLine_b129 (Φ := (fun t => Φ t)) x0 q1 (fun _b => kR _b)  (hv.1 _ rfl))
noncomputable def d_X10_readLine_b97 (x0 : Nat) (s0 : Int32) (s1 : Nat) (m : dc_M) : Option dc_M :=
  ((d_X10_readWire s1 s0 m).bind (fun q1 => (d_X10_readLine_b108 x0 q1)))
set_option maxHeartbeats 8000000 in
theorem k_X10_readLine_b97 {u : Nat} {N : Nat} {Φ : (Option dc_M) → Option Value → dc_M → Prop} (x0 : Nat) (s0 : Int32) (s1 : Nat) (m : dc_M) (kR : ∀  (m : dc_M), Φ (some (m)) (none) m)  {lv : ab_L} (f0 : ab_lk lv 0 = some (.ref x0)) : dc_pv u N ab_M_X10_readLine 97 lv [.int s0, .ref s1] m (Φ (d_X10_readLine_b97 x0 s0 s1 m)) := by
  refine dc_pv.mono (dc_ok (C := C_X10_readLine) (S := S_X10_readLine) CO_X10_readLine 400 97 [(0, .ref x0)] lv [.int s0, .ref s1] m (dc_sub_cons f0 (dc_sub_nil)) ?_) (Nat.le_succ N)
  unfold d_X10_readLine_b97
  refine dw_b (fun t => Φ t) (pc' := 100) (fun q1 => []) (fun q1 => q1) rfl (fun _ => rfl) (fun q1 => ?_)
  refine dw_g rfl ?_
  refine dw_s (pc' := 108) [] rfl (fun _ => rfl) ?_
  exact dw_j rfl (fun lv1 hv => k_X10_readLine_b108 (Φ := (fun t => Φ t)) x0 q1 (fun _b => kR _b)  (hv.1 _ rfl))
noncomputable def d_X10_readLine_b67 (x0 : Nat) (m : dc_M) : Option dc_M :=
  (if ¬ (Int32.toInt (m.1 x0 20)) = 302 then (if ¬ (Int32.toInt (m.1 x0 20)) = 16052 then (d_X10_readLine_b97 x0 (2 : Int32) x0 m) else (d_X10_readLine_b97 x0 (1 : Int32) x0 m)) else (d_X10_readLine_b97 x0 (0 : Int32) x0 m))
set_option maxHeartbeats 8000000 in
theorem k_X10_readLine_b67 {u : Nat} {N : Nat} {Φ : (Option dc_M) → Option Value → dc_M → Prop} (x0 : Nat) (m : dc_M) (kR : ∀  (m : dc_M), Φ (some (m)) (none) m)  {lv : ab_L} (f0 : ab_lk lv 0 = some (.ref x0)) : dc_pv u N ab_M_X10_readLine 67 lv [] m (Φ (d_X10_readLine_b67 x0 m)) := by
  refine dc_pv.mono (dc_ok (C := C_X10_readLine) (S := S_X10_readLine) CO_X10_readLine 400 67 [(0, .ref x0)] lv [] m (dc_sub_cons f0 (dc_sub_nil)) ?_) (Nat.le_succ N)
  unfold d_X10_readLine_b67
  refine dg_s (pc' := 68) [.ref x0] rfl (fun _ => rfl) rfl ?_
  refine dg_s (pc' := 69) [.ref x0, .ref x0] rfl (fun _ => rfl) rfl ?_
  refine dg_s (pc' := 72) [.int (m.1 x0 20), .ref x0] rfl (fun _ => rfl) rfl ?_
  refine dg_s (pc' := 75) [.int (302 : Int32), .int (m.1 x0 20), .ref x0] rfl (fun _ => rfl) rfl ?_
  refine dw_if (fun t => Φ t) (¬ (Int32.toInt (m.1 x0 20)) = 302) [.ref x0] 82 78 rfl (fun _ => rfl) (fun c0 => ?_) (fun c0 => ?_)
  · refine dw_g rfl ?_
    refine dg_s (pc' := 83) [.ref x0, .ref x0] rfl (fun _ => rfl) rfl ?_
    refine dg_s (pc' := 86) [.int (m.1 x0 20), .ref x0] rfl (fun _ => rfl) rfl ?_
    refine dg_s (pc' := 89) [.int (16052 : Int32), .int (m.1 x0 20), .ref x0] rfl (fun _ => rfl) rfl ?_
    refine dw_if (fun t => Φ t) (¬ (Int32.toInt (m.1 x0 20)) = 16052) [.ref x0] 96 92 rfl (fun _ => rfl) (fun c1 => ?_) (fun c1 => ?_)
    · refine dw_g rfl ?_
      refine dw_s (pc' := 97) [.int (2 : Int32), .ref x0] rfl (fun _ => rfl) ?_
      exact dw_j rfl (fun lv1 hv => k_X10_readLine_b97 (Φ := (fun t => Φ t)) x0 (2 : Int32) x0 m (fun _b => kR _b)  (hv.1 _ rfl))
    · refine dw_g rfl ?_
      refine dg_s (pc' := 93) [.int (1 : Int32), .ref x0] rfl (fun _ => rfl) rfl ?_
      refine dw_s (pc' := 97) [.int (1 : Int32), .ref x0] rfl (fun _ => rfl) ?_
      exact dw_j rfl (fun lv1 hv => k_X10_readLine_b97 (Φ := (fun t => Φ t)) x0 (1 : Int32) x0 m (fun _b => kR _b)  (hv.1 _ rfl))
  · refine dw_g rfl ?_
    refine dg_s (pc' := 79) [.int (0 : Int32), .ref x0] rfl (fun _ => rfl) rfl ?_
    refine dw_s (pc' := 97) [.int (0 : Int32), .ref x0] rfl (fun _ => rfl) ?_
    exact dw_j rfl (fun lv1 hv => k_X10_readLine_b97 (Φ := (fun t => Φ t)) x0 (0 : Int32) x0 m (fun _b => kR _b)  (hv.1 _ rfl))
noncomputable def d_X10_readLine_b34 (x0 : Nat) (x1 : Int32) (m : dc_M) : Option dc_M :=
  (if (Int32.toInt x1) = 0 then (dc_let (d_X10_fails x0 (2 : Int32) m) (fun q1 => (d_X10_readLine_b108 x0 q1))) else (if (Int32.toInt (m.1 x0 20)) = 302 then (d_X10_readLine_b67 x0 m) else (if (Int32.toInt (m.1 x0 20)) = 16052 then (d_X10_readLine_b67 x0 m) else (if ¬ (Int32.toInt (m.1 x0 20)) = 9910450 then (dc_let (d_X10_fails x0 (2 : Int32) m) (fun q2 => (d_X10_readLine_b108 x0 q2))) else (d_X10_readLine_b67 x0 m)))))
set_option maxHeartbeats 8000000 in
theorem k_X10_readLine_b34 {u : Nat} {N : Nat} {Φ : (Option dc_M) → Option Value → dc_M → Prop} (x0 : Nat) (x1 : Int32) (m : dc_M) (kR : ∀  (m : dc_M), Φ (some (m)) (none) m)  {lv : ab_L} (f0 : ab_lk lv 0 = some (.ref x0)) (f1 : ab_lk lv 1 = some (.int x1)) : dc_pv u N ab_M_X10_readLine 34 lv [] m (Φ (d_X10_readLine_b34 x0 x1 m)) := by
  refine dc_pv.mono (dc_ok (C := C_X10_readLine) (S := S_X10_readLine) CO_X10_readLine 400 34 [(0, .ref x0), (1, .int x1)] lv [] m (dc_sub_cons f0 (dc_sub_cons f1 (dc_sub_nil))) ?_) (Nat.le_succ N)
  unfold d_X10_readLine_b34
  refine dg_s (pc' := 35) [.int x1] rfl (fun _ => rfl) rfl ?_
  refine dw_if (fun t => Φ t) ((Int32.toInt x1) = 0) [] 103 38 rfl (fun _ => rfl) (fun c0 => ?_) (fun c0 => ?_)
  · refine dw_g rfl ?_
    refine dg_s (pc' := 104) [.ref x0] rfl (fun _ => rfl) rfl ?_
    refine dg_s (pc' := 105) [.int (2 : Int32), .ref x0] rfl (fun _ => rfl) rfl ?_
    refine dw_l (fun t => Φ t) (pc' := 108) (fun q1 => []) (fun q1 => q1) rfl (fun _ => rfl) (fun q1 => ?_)
    exact dw_j rfl (fun lv1 hv => k_X10_readLine_b108 (Φ := (fun t => Φ t)) x0 q1 (fun _b => kR _b)  (hv.1 _ rfl))
  · refine dw_g rfl ?_
    refine dg_s (pc' := 39) [.ref x0] rfl (fun _ => rfl) rfl ?_
    refine dg_s (pc' := 42) [.int (m.1 x0 20)] rfl (fun _ => rfl) rfl ?_
    refine dg_s (pc' := 45) [.int (302 : Int32), .int (m.1 x0 20)] rfl (fun _ => rfl) rfl ?_
    refine dw_if (fun t => Φ t) ((Int32.toInt (m.1 x0 20)) = 302) [] 67 48 rfl (fun _ => rfl) (fun c1 => ?_) (fun c1 => ?_)
    · exact dw_j rfl (fun lv1 hv => k_X10_readLine_b67 (Φ := (fun t => Φ t)) x0 m (fun _b => kR _b)  (hv.1 _ rfl))
    · refine dw_g rfl ?_
      refine dg_s (pc' := 49) [.ref x0] rfl (fun _ => rfl) rfl ?_
      refine dg_s (pc' := 52) [.int (m.1 x0 20)] rfl (fun _ => rfl) rfl ?_
      refine dg_s (pc' := 55) [.int (16052 : Int32), .int (m.1 x0 20)] rfl (fun _ => rfl) rfl ?_
      refine dw_if (fun t => Φ t) ((Int32.toInt (m.1 x0 20)) = 16052) [] 67 58 rfl (fun _ => rfl) (fun c2 => ?_) (fun c2 => ?_)
      · exact dw_j rfl (fun lv1 hv => k_X10_readLine_b67 (Φ := (fun t => Φ t)) x0 m (fun _b => kR _b)  (hv.1 _ rfl))
      · refine dw_g rfl ?_
        refine dg_s (pc' := 59) [.ref x0] rfl (fun _ => rfl) rfl ?_
        refine dg_s (pc' := 62) [.int (m.1 x0 20)] rfl (fun _ => rfl) rfl ?_
        refine dg_s (pc' := 64) [.int (9910450 : Int32), .int (m.1 x0 20)] rfl (fun _ => rfl) rfl ?_
        refine dw_if (fun t => Φ t) (¬ (Int32.toInt (m.1 x0 20)) = 9910450) [] 103 67 rfl (fun _ => rfl) (fun c3 => ?_) (fun c3 => ?_)
        · refine dw_g rfl ?_
          refine dg_s (pc' := 104) [.ref x0] rfl (fun _ => rfl) rfl ?_
          refine dg_s (pc' := 105) [.int (2 : Int32), .ref x0] rfl (fun _ => rfl) rfl ?_
          refine dw_l (fun t => Φ t) (pc' := 108) (fun q2 => []) (fun q2 => q2) rfl (fun _ => rfl) (fun q2 => ?_)
          exact dw_j rfl (fun lv1 hv => k_X10_readLine_b108 (Φ := (fun t => Φ t)) x0 q2 (fun _b => kR _b)  (hv.1 _ rfl))
        · exact dw_j rfl (fun lv1 hv => k_X10_readLine_b67 (Φ := (fun t => Φ t)) x0 m (fun _b => kR _b)  (hv.1 _ rfl))
noncomputable def d_X10_readLine_b13 (x0 : Nat) (s0 : Int32) (m : dc_M) : Option dc_M :=
  (if (Int32.toInt s0) = 0 then (d_X10_readLine_b34 x0 s0 m) else (if ¬ (Int32.toInt (m.1 x0 20)) = 17171557 then (d_X10_readLine_b34 x0 s0 m) else ((d_X10_readPlace x0 m).bind (fun q1 => (d_X10_readLine_b108 x0 q1)))))
set_option maxHeartbeats 8000000 in
theorem k_X10_readLine_b13 {u : Nat} {N : Nat} {Φ : (Option dc_M) → Option Value → dc_M → Prop} (x0 : Nat) (s0 : Int32) (m : dc_M) (kR : ∀  (m : dc_M), Φ (some (m)) (none) m)  {lv : ab_L} (f0 : ab_lk lv 0 = some (.ref x0)) : dc_pv u N ab_M_X10_readLine 13 lv [.int s0] m (Φ (d_X10_readLine_b13 x0 s0 m)) := by
  refine dc_pv.mono (dc_ok (C := C_X10_readLine) (S := S_X10_readLine) CO_X10_readLine 400 13 [(0, .ref x0)] lv [.int s0] m (dc_sub_cons f0 (dc_sub_nil)) ?_) (Nat.le_succ N)
  unfold d_X10_readLine_b13
  refine dg_L (pc' := 14) [(1, .int s0), (0, .ref x0)] [] rfl (fun _ => rfl) rfl ?_
  refine dg_s (pc' := 15) [.int s0] rfl (fun _ => rfl) rfl ?_
  refine dw_if (fun t => Φ t) ((Int32.toInt s0) = 0) [] 34 18 rfl (fun _ => rfl) (fun c0 => ?_) (fun c0 => ?_)
  · exact dw_j rfl (fun lv1 hv => k_X10_readLine_b34 (Φ := (fun t => Φ t)) x0 s0 m (fun _b => kR _b)  (hv.1 _ rfl) (hv.2.1 _ rfl))
  · refine dw_g rfl ?_
    refine dg_s (pc' := 19) [.ref x0] rfl (fun _ => rfl) rfl ?_
    refine dg_s (pc' := 22) [.int (m.1 x0 20)] rfl (fun _ => rfl) rfl ?_
    refine dg_s (pc' := 24) [.int (17171557 : Int32), .int (m.1 x0 20)] rfl (fun _ => rfl) rfl ?_
    refine dw_if (fun t => Φ t) (¬ (Int32.toInt (m.1 x0 20)) = 17171557) [] 34 27 rfl (fun _ => rfl) (fun c1 => ?_) (fun c1 => ?_)
    · exact dw_j rfl (fun lv1 hv => k_X10_readLine_b34 (Φ := (fun t => Φ t)) x0 s0 m (fun _b => kR _b)  (hv.1 _ rfl) (hv.2.1 _ rfl))
    · refine dw_g rfl ?_
      refine dg_s (pc' := 28) [.ref x0] rfl (fun _ => rfl) rfl ?_
      refine dw_b (fun t => Φ t) (pc' := 31) (fun q1 => []) (fun q1 => q1) rfl (fun _ => rfl) (fun q1 => ?_)
      refine dw_g rfl ?_
      refine dw_s (pc' := 108) [] rfl (fun _ => rfl) ?_
      exact dw_j rfl (fun lv1 hv => k_X10_readLine_b108 (Φ := (fun t => Φ t)) x0 q1 (fun _b => kR _b)  (hv.1 _ rfl))
noncomputable def d_X10_readLine (x0 : Nat) (m : dc_M) : Option dc_M :=
  (if ¬ (Int32.toInt (m.1 x0 19)) = 1 then (d_X10_readLine_b13 x0 (0 : Int32) m) else (d_X10_readLine_b13 x0 (1 : Int32) m))
set_option maxHeartbeats 8000000 in
theorem k_X10_readLine {u : Nat} {N : Nat} {Φ : (Option dc_M) → Option Value → dc_M → Prop} (x0 : Nat) (m : dc_M) (kR : ∀  (m : dc_M), Φ (some (m)) (none) m)  {lv : ab_L} (f0 : ab_lk lv 0 = some (.ref x0)) : dc_pv u N ab_M_X10_readLine 0 lv [] m (Φ (d_X10_readLine x0 m)) := by
  refine dc_pv.mono (dc_ok (C := C_X10_readLine) (S := S_X10_readLine) CO_X10_readLine 400 0 [(0, .ref x0)] lv [] m (dc_sub_cons f0 (dc_sub_nil)) ?_) (Nat.le_succ N)
  unfold d_X10_readLine
  refine dg_s (pc' := 1) [.ref x0] rfl (fun _ => rfl) rfl ?_
  refine dg_s (pc' := 4) [.int (m.1 x0 19)] rfl (fun _ => rfl) rfl ?_
  refine dg_s (pc' := 5) [.int (1 : Int32), .int (m.1 x0 19)] rfl (fun _ => rfl) rfl ?_
  refine dw_if (fun t => Φ t) (¬ (Int32.toInt (m.1 x0 19)) = 1) [] 12 8 rfl (fun _ => rfl) (fun c0 => ?_) (fun c0 => ?_)
  · refine dw_g rfl ?_
    refine dw_s (pc' := 13) [.int (0 : Int32)] rfl (fun _ => rfl) ?_
    exact dw_j rfl (fun lv1 hv => k_X10_readLine_b13 (Φ := (fun t => Φ t)) x0 (0 : Int32) m (fun _b => kR _b)  (hv.1 _ rfl))
  · refine dw_g rfl ?_
    refine dg_s (pc' := 9) [.int (1 : Int32)] rfl (fun _ => rfl) rfl ?_
    refine dw_s (pc' := 13) [.int (1 : Int32)] rfl (fun _ => rfl) ?_
    exact dw_j rfl (fun lv1 hv => k_X10_readLine_b13 (Φ := (fun t => Φ t)) x0 (1 : Int32) m (fun _b => kR _b)  (hv.1 _ rfl))
noncomputable def H_X10_readLine : dc_H := fun As m k => match As with
  | [.ref x0] => (d_X10_readLine x0 m).bind (fun q => k (none) q)
  | _ => dc_kz
theorem H_X10_readLine_ok {u : Nat} : dc_cok u 159 H_X10_readLine := fun M' hG N As m k P hz hP => by
  obtain rfl : ab_M_X10_readLine = M' := Option.some.inj hG
  unfold H_X10_readLine at hP
  split at hP
  · rename_i x0
    exact dc_pv.imp (k_X10_readLine (Φ := fun (t : Option dc_M) r m' => P (t.bind (fun q => k (none) q)) → P (k r m')) x0 m (fun _ h => h) rfl) (fun r m' h => h hP)
  · exact absurd hP hz
