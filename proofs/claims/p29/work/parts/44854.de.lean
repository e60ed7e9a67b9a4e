/-! ===== methods as functions (written by a program) ===== -/
noncomputable def C_X10_count : List (Nat × dc_H) := [(212, H_X10_sizeOf)]
theorem CO_X10_count {u : Nat} : dc_CO u C_X10_count := dc_CO_cons H_X10_sizeOf_ok (dc_CO_nil)
def S_X10_count : List (Nat × List Nat) := []
noncomputable def d_X10_count (x0 : Nat) (x1 : Int32) (m : dc_M) : Option Int32 :=
  (if (Int32.toInt x1) = 0 then some ((m.1 x0 0)) else (if (Int32.toInt x1) = 1 then some ((m.1 x0 3)) else (if (Int32.toInt x1) = 2 then some ((m.1 x0 10)) else (if (Int32.toInt x1) = 3 then ((d_X10_sizeOf (m.1 x0 11) m).bind (fun q1 => some (q1))) else (if (Int32.toInt x1) = 4 then some ((m.1 x0 64)) else (if (Int32.toInt x1) = 5 then some ((m.1 x0 13)) else (if (Int32.toInt x1) = 6 then (if ¬ (Int32.toInt (m.1 (x0 + 35) (Int32.toNatClampNeg (0 : Int32)))) = (-4) then some ((m.1 (x0 + 36) (Int32.toNatClampNeg (0 : Int32)))) else some ((-4 : Int32))) else some ((-1 : Int32)))))))))
set_option maxHeartbeats 8000000 in
theorem k_X10_count {u : Nat} {N : Nat} {Φ : (Option Int32) → Option Value → dc_M → Prop} (x0 : Nat) (x1 : Int32) (m : dc_M) (kR : ∀ (v : Int32), Φ (some (v)) (some (.int v)) m)  {lv : ab_L} (f0 : ab_lk lv 0 = some (.ref x0)) (f1 : ab_lk lv 1 = some (.int x1)) : dc_pv u N ab_M_X10_count 0 lv [] m (Φ (d_X10_count x0 x1 m)) := by
  refine dc_pv.mono (dc_ok (C := C_X10_count) (S := S_X10_count) CO_X10_count 400 0 [(0, .ref x0), (1, .int x1)] lv [] m (dc_sub_cons f0 (dc_sub_cons f1 (dc_sub_nil))) ?_) (Nat.le_succ N)
  unfold d_X10_count
  refine dg_s (pc' := 1) [.int x1] rfl (fun _ => rfl) rfl ?_
  refine dw_sw (fun t => Φ t) ((Int32.toInt x1)) 100 [(0, 44), (1, 49), (2, 54), (3, 59), (4, 67), (5, 72), (6, 77)] [] rfl (fun _ => rfl) ?_
  refine dw_ts (fun t => Φ t) (fun c0 => ?_) (fun c0 => ?_)
  · refine dw_g rfl ?_
    refine dg_s (pc' := 45) [.ref x0] rfl (fun _ => rfl) rfl ?_
    refine dg_s (pc' := 48) [.int (m.1 x0 0)] rfl (fun _ => rfl) rfl ?_
    exact dw_r (some (.inl (some (.int (m.1 x0 0)), m))) rfl (fun _ => rfl) (kR _)
  refine dw_ts (fun t => Φ t) (fun c1 => ?_) (fun c1 => ?_)
  · refine dw_g rfl ?_
    refine dg_s (pc' := 50) [.ref x0] rfl (fun _ => rfl) rfl ?_
    refine dg_s (pc' := 53) [.int (m.1 x0 3)] rfl (fun _ => rfl) rfl ?_
    exact dw_r (some (.inl (some (.int (m.1 x0 3)), m))) rfl (fun _ => rfl) (kR _)
  refine dw_ts (fun t => Φ t) (fun c2 => ?_) (fun c2 => ?_)
  · refine dw_g rfl ?_
    refine dg_s (pc' := 55) [.ref x0] rfl (fun _ => rfl) rfl ?_
    refine dg_s (pc' := 58) [.int (m.1 x0 10)] rfl (fun _ => rfl) rfl ?_
    exact dw_r (some (.inl (some (.int (m.1 x0 10)), m))) rfl (fun _ => rfl) (kR _)
  refine dw_ts (fun t => Φ t) (fun c3 => ?_) (fun c3 => ?_)
  · refine dw_g rfl ?_
    refine dg_s (pc' := 60) [.ref x0] rfl (fun _ => rfl) rfl ?_
    refine dg_s (pc' := 63) [.int (m.1 x0 11)] rfl (fun _ => rfl) rfl ?_
    refine dw_b (fun t => Φ t) (pc' := 66) (fun q1 => [.int q1]) (fun q1 => m) rfl (fun _ => rfl) (fun q1 => ?_)
    refine dw_g rfl ?_
    exact dw_r (some (.inl (some (.int q1), m))) rfl (fun _ => rfl) (kR _)
  refine dw_ts (fun t => Φ t) (fun c4 => ?_) (fun c4 => ?_)
  · refine dw_g rfl ?_
    refine dg_s (pc' := 68) [.ref x0] rfl (fun _ => rfl) rfl ?_
    refine dg_s (pc' := 71) [.int (m.1 x0 64)] rfl (fun _ => rfl) rfl ?_
    exact dw_r (some (.inl (some (.int (m.1 x0 64)), m))) rfl (fun _ => rfl) (kR _)
  refine dw_ts (fun t => Φ t) (fun c5 => ?_) (fun c5 => ?_)
  · refine dw_g rfl ?_
    refine dg_s (pc' := 73) [.ref x0] rfl (fun _ => rfl) rfl ?_
    refine dg_s (pc' := 76) [.int (m.1 x0 13)] rfl (fun _ => rfl) rfl ?_
    exact dw_r (some (.inl (some (.int (m.1 x0 13)), m))) rfl (fun _ => rfl) (kR _)
  refine dw_ts (fun t => Φ t) (fun c6 => ?_) (fun c6 => ?_)
  · refine dw_g rfl ?_
    refine dg_s (pc' := 78) [.ref x0] rfl (fun _ => rfl) rfl ?_
    refine dg_s (pc' := 81) [.ref (x0 + 35)] rfl (fun _ => rfl) rfl ?_
    refine dg_s (pc' := 82) [.int (0 : Int32), .ref (x0 + 35)] rfl (fun _ => rfl) rfl ?_
    refine dg_s (pc' := 83) [.int (m.1 (x0 + 35) (Int32.toNatClampNeg (0 : Int32)))] rfl (fun _ => rfl) rfl ?_
    refine dg_s (pc' := 85) [.int (-4 : Int32), .int (m.1 (x0 + 35) (Int32.toNatClampNeg (0 : Int32)))] rfl (fun _ => rfl) rfl ?_
    refine dw_if (fun t => Φ t) (¬ (Int32.toInt (m.1 (x0 + 35) (Int32.toNatClampNeg (0 : Int32)))) = (-4)) [] 93 88 rfl (fun _ => rfl) (fun c7 => ?_) (fun c7 => ?_)
    · refine dw_g rfl ?_
      refine dg_s (pc' := 94) [.ref x0] rfl (fun _ => rfl) rfl ?_
      refine dg_s (pc' := 97) [.ref (x0 + 36)] rfl (fun _ => rfl) rfl ?_
      refine dg_s (pc' := 98) [.int (0 : Int32), .ref (x0 + 36)] rfl (fun _ => rfl) rfl ?_
      refine dg_s (pc' := 99) [.int (m.1 (x0 + 36) (Int32.toNatClampNeg (0 : Int32)))] rfl (fun _ => rfl) rfl ?_
      exact dw_r (some (.inl (some (.int (m.1 (x0 + 36) (Int32.toNatClampNeg (0 : Int32)))), m))) rfl (fun _ => rfl) (kR _)
    · refine dw_g rfl ?_
      refine dg_s (pc' := 90) [.int (-4 : Int32)] rfl (fun _ => rfl) rfl ?_
      refine dg_s (pc' := 99) [.int (-4 : Int32)] rfl (fun _ => rfl) rfl ?_
      exact dw_r (some (.inl (some (.int (-4 : Int32)), m))) rfl (fun _ => rfl) (kR _)
  refine dw_t0 ?_
  refine dw_g rfl ?_
  refine dg_s (pc' := 101) [.int (-1 : Int32)] rfl (fun _ => rfl) rfl ?_
  exact dw_r (some (.inl (some (.int (-1 : Int32)), m))) rfl (fun _ => rfl) (kR _)
noncomputable def H_X10_count : dc_H := fun As m k => match As with
  | [.ref x0, .int x1] => (d_X10_count x0 x1 m).bind (fun q => k (some (.int q)) m)
  | _ => dc_kz
theorem H_X10_count_ok {u : Nat} : dc_cok u 228 H_X10_count := fun M' hG N As m k P hz hP => by
  obtain rfl : ab_M_X10_count = M' := Option.some.inj hG
  unfold H_X10_count at hP
  split at hP
  · rename_i x0 x1
    exact dc_pv.imp (k_X10_count (Φ := fun (t : Option Int32) r m' => P (t.bind (fun q => k (some (.int q)) m)) → P (k r m')) x0 x1 m (fun _  h => h) rfl rfl) (fun r m' h => h hP)
  · exact absurd hP hz
