/-! ===== methods as functions (written by a program) ===== -/
noncomputable def C_X10_back : List (Nat × dc_H) := [(146, H_X10_in), (185, H_X10_layBacks), (175, H_X10_layRight)]
theorem CO_X10_back {u : Nat} : dc_CO u C_X10_back := dc_CO_cons H_X10_in_ok (dc_CO_cons H_X10_layBacks_ok (dc_CO_cons H_X10_layRight_ok (dc_CO_nil)))
def S_X10_back : List (Nat × List Nat) := []
noncomputable def d_X10_back (x0 : Nat) (x1 : Int32) (m : dc_M) : Option (Int32 × dc_M) :=
  (if ¬ (Int32.toInt (d_X10_in (Int32.toInt64 x1) (0 : Int64) (3 : Int64) m)) = 0 then ((d_X10_layRight x0 m).bind (fun q1 => (if ¬ (Int32.toInt q1.1) = 0 then ((d_X10_layBacks x0 q1.2).bind (fun q2 => (if ¬ (Int32.toInt x1) = 0 then (if ¬ (Int32.toInt x1) = 1 then (if ¬ (Int32.toInt x1) = 2 then some (((q2.1 x0 46), q2)) else some (((q2.1 x0 45), q2))) else some (((q2.1 x0 44), q2))) else some (((q2.1 x0 43), q2))))) else some (((-2 : Int32), q1.2))))) else some (((-1 : Int32), m)))
set_option maxHeartbeats 8000000 in
theorem k_X10_back {u : Nat} {N : Nat} {Φ : (Option (Int32 × dc_M)) → Option Value → dc_M → Prop} (x0 : Nat) (x1 : Int32) (m : dc_M) (kR : ∀ (v : Int32) (m : dc_M), Φ (some ((v, m))) (some (.int v)) m)  {lv : ab_L} (f0 : ab_lk lv 0 = some (.ref x0)) (f1 : ab_lk lv 1 = some (.int x1)) : dc_pv u N ab_M_X10_back 0 lv [] m (Φ (d_X10_back x0 x1 m)) := by
  refine dc_pv.mono (dc_ok (C := C_X10_back) (S := S_X10_back) CO_X10_back 400 0 [(0, .ref x0), (1, .int x1)] lv [] m (dc_sub_cons f0 (dc_sub_cons f1 (dc_sub_nil))) ?_) (Nat.le_succ N)
  unfold d_X10_back
  refine dg_s (pc' := 1) [.int x1] rfl (fun _ => rfl) rfl ?_
  refine dg_s (pc' := 2) [.long (Int32.toInt64 x1)] rfl (fun _ => rfl) rfl ?_
  refine dg_s (pc' := 3) [.long (0 : Int64), .long (Int32.toInt64 x1)] rfl (fun _ => rfl) rfl ?_
  refine dg_s (pc' := 6) [.long (3 : Int64), .long (0 : Int64), .long (Int32.toInt64 x1)] rfl (fun _ => rfl) rfl ?_
  refine dg_s (pc' := 9) [.int (d_X10_in (Int32.toInt64 x1) (0 : Int64) (3 : Int64) m)] rfl (fun _ => rfl) rfl ?_
  refine dw_if (fun t => Φ t) (¬ (Int32.toInt (d_X10_in (Int32.toInt64 x1) (0 : Int64) (3 : Int64) m)) = 0) [] 14 12 rfl (fun _ => rfl) (fun c0 => ?_) (fun c0 => ?_)
  · refine dw_g rfl ?_
    refine dg_s (pc' := 15) [.ref x0] rfl (fun _ => rfl) rfl ?_
    refine dw_b (fun t => Φ t) (pc' := 18) (fun q1 => [.int q1.1]) (fun q1 => q1.2) rfl (fun _ => rfl) (fun q1 => ?_)
    refine dw_g rfl ?_
    refine dw_if (fun t => Φ t) (¬ (Int32.toInt q1.1) = 0) [] 24 21 rfl (fun _ => rfl) (fun c1 => ?_) (fun c1 => ?_)
    · refine dw_g rfl ?_
      refine dg_s (pc' := 25) [.ref x0] rfl (fun _ => rfl) rfl ?_
      refine dw_b (fun t => Φ t) (pc' := 28) (fun q2 => []) (fun q2 => q2) rfl (fun _ => rfl) (fun q2 => ?_)
      refine dw_g rfl ?_
      refine dg_s (pc' := 29) [.int x1] rfl (fun _ => rfl) rfl ?_
      refine dw_if (fun t => Φ t) (¬ (Int32.toInt x1) = 0) [] 39 32 rfl (fun _ => rfl) (fun c2 => ?_) (fun c2 => ?_)
      · refine dw_g rfl ?_
        refine dg_s (pc' := 40) [.int x1] rfl (fun _ => rfl) rfl ?_
        refine dg_s (pc' := 41) [.int (1 : Int32), .int x1] rfl (fun _ => rfl) rfl ?_
        refine dw_if (fun t => Φ t) (¬ (Int32.toInt x1) = 1) [] 51 44 rfl (fun _ => rfl) (fun c3 => ?_) (fun c3 => ?_)
        · refine dw_g rfl ?_
          refine dg_s (pc' := 52) [.int x1] rfl (fun _ => rfl) rfl ?_
          refine dg_s (pc' := 53) [.int (2 : Int32), .int x1] rfl (fun _ => rfl) rfl ?_
          refine dw_if (fun t => Φ t) (¬ (Int32.toInt x1) = 2) [] 63 56 rfl (fun _ => rfl) (fun c4 => ?_) (fun c4 => ?_)
          · refine dw_g rfl ?_
            refine dg_s (pc' := 64) [.ref x0] rfl (fun _ => rfl) rfl ?_
            refine dg_s (pc' := 67) [.int (q2.1 x0 46)] rfl (fun _ => rfl) rfl ?_
            exact dw_r (some (.inl (some (.int (q2.1 x0 46)), q2))) rfl (fun _ => rfl) (kR _ _)
          · refine dw_g rfl ?_
            refine dg_s (pc' := 57) [.ref x0] rfl (fun _ => rfl) rfl ?_
            refine dg_s (pc' := 60) [.int (q2.1 x0 45)] rfl (fun _ => rfl) rfl ?_
            refine dg_s (pc' := 67) [.int (q2.1 x0 45)] rfl (fun _ => rfl) rfl ?_
            exact dw_r (some (.inl (some (.int (q2.1 x0 45)), q2))) rfl (fun _ => rfl) (kR _ _)
        · refine dw_g rfl ?_
          refine dg_s (pc' := 45) [.ref x0] rfl (fun _ => rfl) rfl ?_
          refine dg_s (pc' := 48) [.int (q2.1 x0 44)] rfl (fun _ => rfl) rfl ?_
          refine dg_s (pc' := 67) [.int (q2.1 x0 44)] rfl (fun _ => rfl) rfl ?_
          exact dw_r (some (.inl (some (.int (q2.1 x0 44)), q2))) rfl (fun _ => rfl) (kR _ _)
      · refine dw_g rfl ?_
        refine dg_s (pc' := 33) [.ref x0] rfl (fun _ => rfl) rfl ?_
        refine dg_s (pc' := 36) [.int (q2.1 x0 43)] rfl (fun _ => rfl) rfl ?_
        refine dg_s (pc' := 67) [.int (q2.1 x0 43)] rfl (fun _ => rfl) rfl ?_
        exact dw_r (some (.inl (some (.int (q2.1 x0 43)), q2))) rfl (fun _ => rfl) (kR _ _)
    · refine dw_g rfl ?_
      refine dg_s (pc' := 23) [.int (-2 : Int32)] rfl (fun _ => rfl) rfl ?_
      exact dw_r (some (.inl (some (.int (-2 : Int32)), q1.2))) rfl (fun _ => rfl) (kR _ _)
  · refine dw_g rfl ?_
    refine dg_s (pc' := 13) [.int (-1 : Int32)] rfl (fun _ => rfl) rfl ?_
    exact dw_r (some (.inl (some (.int (-1 : Int32)), m))) rfl (fun _ => rfl) (kR _ _)
noncomputable def H_X10_back : dc_H := fun As m k => match As with
  | [.ref x0, .int x1] => (d_X10_back x0 x1 m).bind (fun q => k (some (.int q.1)) q.2)
  | _ => dc_kz
theorem H_X10_back_ok {u : Nat} : dc_cok u 186 H_X10_back := fun M' hG N As m k P hz hP => by
  obtain rfl : ab_M_X10_back = M' := Option.some.inj hG
  unfold H_X10_back at hP
  split at hP
  · rename_i x0 x1
    exact dc_pv.imp (k_X10_back (Φ := fun (t : Option (Int32 × dc_M)) r m' => P (t.bind (fun q => k (some (.int q.1)) q.2)) → P (k r m')) x0 x1 m (fun _ _ h => h) rfl rfl) (fun r m' h => h hP)
  · exact absurd hP hz
def C_J6_bitCount_0f7a4 : List (Nat × dc_H) := []
theorem CO_J6_bitCount_0f7a4 {u : Nat} : dc_CO u C_J6_bitCount_0f7a4 := dc_CO_nil
def S_J6_bitCount_0f7a4 : List (Nat × List Nat) := []
def d_J6_bitCount_0f7a4 (x0 : Int32) (m : dc_M) : Int32 :=
  ((((((((x0 - (((x0.toUInt32 >>> ((1 : Int32).toUInt32 &&& Int32.toUInt32 31)).toInt32) &&& (1431655765 : Int32))) &&& (858993459 : Int32)) + ((((x0 - (((x0.toUInt32 >>> ((1 : Int32).toUInt32 &&& Int32.toUInt32 31)).toInt32) &&& (1431655765 : Int32))).toUInt32 >>> ((2 : Int32).toUInt32 &&& Int32.toUInt32 31)).toInt32) &&& (858993459 : Int32))) + (((((x0 - (((x0.toUInt32 >>> ((1 : Int32).toUInt32 &&& Int32.toUInt32 31)).toInt32) &&& (1431655765 : Int32))) &&& (858993459 : Int32)) + ((((x0 - (((x0.toUInt32 >>> ((1 : Int32).toUInt32 &&& Int32.toUInt32 31)).toInt32) &&& (1431655765 : Int32))).toUInt32 >>> ((2 : Int32).toUInt32 &&& Int32.toUInt32 31)).toInt32) &&& (858993459 : Int32))).toUInt32 >>> ((4 : Int32).toUInt32 &&& Int32.toUInt32 31)).toInt32)) &&& (252645135 : Int32)) + (((((((x0 - (((x0.toUInt32 >>> ((1 : Int32).toUInt32 &&& Int32.toUInt32 31)).toInt32) &&& (1431655765 : Int32))) &&& (858993459 : Int32)) + ((((x0 - (((x0.toUInt32 >>> ((1 : Int32).toUInt32 &&& Int32.toUInt32 31)).toInt32) &&& (1431655765 : Int32))).toUInt32 >>> ((2 : Int32).toUInt32 &&& Int32.toUInt32 31)).toInt32) &&& (858993459 : Int32))) + (((((x0 - (((x0.toUInt32 >>> ((1 : Int32).toUInt32 &&& Int32.toUInt32 31)).toInt32) &&& (1431655765 : Int32))) &&& (858993459 : Int32)) + ((((x0 - (((x0.toUInt32 >>> ((1 : Int32).toUInt32 &&& Int32.toUInt32 31)).toInt32) &&& (1431655765 : Int32))).toUInt32 >>> ((2 : Int32).toUInt32 &&& Int32.toUInt32 31)).toInt32) &&& (858993459 : Int32))).toUInt32 >>> ((4 : Int32).toUInt32 &&& Int32.toUInt32 31)).toInt32)) &&& (252645135 : Int32)).toUInt32 >>> ((8 : Int32).toUInt32 &&& Int32.toUInt32 31)).toInt32)) + ((((((((x0 - (((x0.toUInt32 >>> ((1 : Int32).toUInt32 &&& Int32.toUInt32 31)).toInt32) &&& (1431655765 : Int32))) &&& (858993459 : Int32)) + ((((x0 - (((x0.toUInt32 >>> ((1 : Int32).toUInt32 &&& Int32.toUInt32 31)).toInt32) &&& (1431655765 : Int32))).toUInt32 >>> ((2 : Int32).toUInt32 &&& Int32.toUInt32 31)).toInt32) &&& (858993459 : Int32))) + (((((x0 - (((x0.toUInt32 >>> ((1 : Int32).toUInt32 &&& Int32.toUInt32 31)).toInt32) &&& (1431655765 : Int32))) &&& (858993459 : Int32)) + ((((x0 - (((x0.toUInt32 >>> ((1 : Int32).toUInt32 &&& Int32.toUInt32 31)).toInt32) &&& (1431655765 : Int32))).toUInt32 >>> ((2 : Int32).toUInt32 &&& Int32.toUInt32 31)).toInt32) &&& (858993459 : Int32))).toUInt32 >>> ((4 : Int32).toUInt32 &&& Int32.toUInt32 31)).toInt32)) &&& (252645135 : Int32)) + (((((((x0 - (((x0.toUInt32 >>> ((1 : Int32).toUInt32 &&& Int32.toUInt32 31)).toInt32) &&& (1431655765 : Int32))) &&& (858993459 : Int32)) + ((((x0 - (((x0.toUInt32 >>> ((1 : Int32).toUInt32 &&& Int32.toUInt32 31)).toInt32) &&& (1431655765 : Int32))).toUInt32 >>> ((2 : Int32).toUInt32 &&& Int32.toUInt32 31)).toInt32) &&& (858993459 : Int32))) + (((((x0 - (((x0.toUInt32 >>> ((1 : Int32).toUInt32 &&& Int32.toUInt32 31)).toInt32) &&& (1431655765 : Int32))) &&& (858993459 : Int32)) + ((((x0 - (((x0.toUInt32 >>> ((1 : Int32).toUInt32 &&& Int32.toUInt32 31)).toInt32) &&& (1431655765 : Int32))).toUInt32 >>> ((2 : Int32).toUInt32 &&& Int32.toUInt32 31)).toInt32) &&& (858993459 : Int32))).toUInt32 >>> ((4 : Int32).toUInt32 &&& Int32.toUInt32 31)).toInt32)) &&& (252645135 : Int32)).toUInt32 >>> ((8 : Int32).toUInt32 &&& Int32.toUInt32 31)).toInt32)).toUInt32 >>> ((16 : Int32).toUInt32 &&& Int32.toUInt32 31)).toInt32)) &&& (63 : Int32))
set_option maxHeartbeats 8000000 in
theorem k_J6_bitCount_0f7a4 {u : Nat} {N : Nat} {Φ : Int32 → Option Value → dc_M → Prop} (x0 : Int32) (m : dc_M) (kR : ∀ (v : Int32), Φ (v) (some (.int v)) m)  {lv : ab_L} (f0 : ab_lk lv 0 = some (.int x0)) : dc_pv u N ab_M_J6_bitCount_0f7a4 0 lv [] m (Φ (d_J6_bitCount_0f7a4 x0 m)) := by
  refine dc_pv.mono (dc_ok (C := C_J6_bitCount_0f7a4) (S := S_J6_bitCount_0f7a4) CO_J6_bitCount_0f7a4 400 0 [(0, .int x0)] lv [] m (dc_sub_cons f0 (dc_sub_nil)) ?_) (Nat.le_succ N)
  unfold d_J6_bitCount_0f7a4
  refine dg_s (pc' := 1) [.int x0] rfl (fun _ => rfl) rfl ?_
  refine dg_s (pc' := 2) [.int x0, .int x0] rfl (fun _ => rfl) rfl ?_
  refine dg_s (pc' := 3) [.int (1 : Int32), .int x0, .int x0] rfl (fun _ => rfl) rfl ?_
  refine dg_s (pc' := 4) [.int ((x0.toUInt32 >>> ((1 : Int32).toUInt32 &&& Int32.toUInt32 31)).toInt32), .int x0] rfl (fun _ => rfl) rfl ?_
  refine dg_s (pc' := 7) [.int (1431655765 : Int32), .int ((x0.toUInt32 >>> ((1 : Int32).toUInt32 &&& Int32.toUInt32 31)).toInt32), .int x0] rfl (fun _ => rfl) rfl ?_
  refine dg_s (pc' := 8) [.int (((x0.toUInt32 >>> ((1 : Int32).toUInt32 &&& Int32.toUInt32 31)).toInt32) &&& (1431655765 : Int32)), .int x0] rfl (fun _ => rfl) rfl ?_
  refine dg_s (pc' := 9) [.int (x0 - (((x0.toUInt32 >>> ((1 : Int32).toUInt32 &&& Int32.toUInt32 31)).toInt32) &&& (1431655765 : Int32)))] rfl (fun _ => rfl) rfl ?_
  refine dg_L (pc' := 10) [(0, .int (x0 - (((x0.toUInt32 >>> ((1 : Int32).toUInt32 &&& Int32.toUInt32 31)).toInt32) &&& (1431655765 : Int32))))] [] rfl (fun _ => rfl) rfl ?_
  refine dg_s (pc' := 11) [.int (x0 - (((x0.toUInt32 >>> ((1 : Int32).toUInt32 &&& Int32.toUInt32 31)).toInt32) &&& (1431655765 : Int32)))] rfl (fun _ => rfl) rfl ?_
  refine dg_s (pc' := 14) [.int (858993459 : Int32), .int (x0 - (((x0.toUInt32 >>> ((1 : Int32).toUInt32 &&& Int32.toUInt32 31)).toInt32) &&& (1431655765 : Int32)))] rfl (fun _ => rfl) rfl ?_
  refine dg_s (pc' := 15) [.int ((x0 - (((x0.toUInt32 >>> ((1 : Int32).toUInt32 &&& Int32.toUInt32 31)).toInt32) &&& (1431655765 : Int32))) &&& (858993459 : Int32))] rfl (fun _ => rfl) rfl ?_
  refine dg_s (pc' := 16) [.int (x0 - (((x0.toUInt32 >>> ((1 : Int32).toUInt32 &&& Int32.toUInt32 31)).toInt32) &&& (1431655765 : Int32))), .int ((x0 - (((x0.toUInt32 >>> ((1 : Int32).toUInt32 &&& Int32.toUInt32 31)).toInt32) &&& (1431655765 : Int32))) &&& (858993459 : Int32))] rfl (fun _ => rfl) rfl ?_
  refine dg_s (pc' := 17) [.int (2 : Int32), .int (x0 - (((x0.toUInt32 >>> ((1 : Int32).toUInt32 &&& Int32.toUInt32 31)).toInt32) &&& (1431655765 : Int32))), .int ((x0 - (((x0.toUInt32 >>> ((1 : Int32).toUInt32 &&& Int32.toUInt32 31)).toInt32) &&& (1431655765 : Int32))) &&& (858993459 : Int32))] rfl (fun _ => rfl) rfl ?_
  refine dg_s (pc' := 18) [.int (((x0 - (((x0.toUInt32 >>> ((1 : Int32).toUInt32 &&& Int32.toUInt32 31)).toInt32) &&& (1431655765 : Int32))).toUInt32 >>> ((2 : Int32).toUInt32 &&& Int32.toUInt32 31)).toInt32), .int ((x0 - (((x0.toUInt32 >>> ((1 : Int32).toUInt32 &&& Int32.toUInt32 31)).toInt32) &&& (1431655765 : Int32))) &&& (858993459 : Int32))] rfl (fun _ => rfl) rfl ?_
  refine dg_s (pc' := 21) [.int (858993459 : Int32), .int (((x0 - (((x0.toUInt32 >>> ((1 : Int32).toUInt32 &&& Int32.toUInt32 31)).toInt32) &&& (1431655765 : Int32))).toUInt32 >>> ((2 : Int32).toUInt32 &&& Int32.toUInt32 31)).toInt32), .int ((x0 - (((x0.toUInt32 >>> ((1 : Int32).toUInt32 &&& Int32.toUInt32 31)).toInt32) &&& (1431655765 : Int32))) &&& (858993459 : Int32))] rfl (fun _ => rfl) rfl ?_
  refine dg_s (pc' := 22) [.int ((((x0 - (((x0.toUInt32 >>> ((1 : Int32).toUInt32 &&& Int32.toUInt32 31)).toInt32) &&& (1431655765 : Int32))).toUInt32 >>> ((2 : Int32).toUInt32 &&& Int32.toUInt32 31)).toInt32) &&& (858993459 : Int32)), .int ((x0 - (((x0.toUInt32 >>> ((1 : Int32).toUInt32 &&& Int32.toUInt32 31)).toInt32) &&& (1431655765 : Int32))) &&& (858993459 : Int32))] rfl (fun _ => rfl) rfl ?_
  refine dg_s (pc' := 23) [.int (((x0 - (((x0.toUInt32 >>> ((1 : Int32).toUInt32 &&& Int32.toUInt32 31)).toInt32) &&& (1431655765 : Int32))) &&& (858993459 : Int32)) + ((((x0 - (((x0.toUInt32 >>> ((1 : Int32).toUInt32 &&& Int32.toUInt32 31)).toInt32) &&& (1431655765 : Int32))).toUInt32 >>> ((2 : Int32).toUInt32 &&& Int32.toUInt32 31)).toInt32) &&& (858993459 : Int32)))] rfl (fun _ => rfl) rfl ?_
  refine dg_L (pc' := 24) [(0, .int (((x0 - (((x0.toUInt32 >>> ((1 : Int32).toUInt32 &&& Int32.toUInt32 31)).toInt32) &&& (1431655765 : Int32))) &&& (858993459 : Int32)) + ((((x0 - (((x0.toUInt32 >>> ((1 : Int32).toUInt32 &&& Int32.toUInt32 31)).toInt32) &&& (1431655765 : Int32))).toUInt32 >>> ((2 : Int32).toUInt32 &&& Int32.toUInt32 31)).toInt32) &&& (858993459 : Int32))))] [] rfl (fun _ => rfl) rfl ?_
  refine dg_s (pc' := 25) [.int (((x0 - (((x0.toUInt32 >>> ((1 : Int32).toUInt32 &&& Int32.toUInt32 31)).toInt32) &&& (1431655765 : Int32))) &&& (858993459 : Int32)) + ((((x0 - (((x0.toUInt32 >>> ((1 : Int32).toUInt32 &&& Int32.toUInt32 31)).toInt32) &&& (1431655765 : Int32))).toUInt32 >>> ((2 : Int32).toUInt32 &&& Int32.toUInt32 31)).toInt32) &&& (858993459 : Int32)))] rfl (fun _ => rfl) rfl ?_
  refine dg_s (pc' := 26) [.int (((x0 - (((x0.toUInt32 >>> ((1 : Int32).toUInt32 &&& Int32.toUInt32 31)).toInt32) &&& (1431655765 : Int32))) &&& (858993459 : Int32)) + ((((x0 - (((x0.toUInt32 >>> ((1 : Int32).toUInt32 &&& Int32.toUInt32 31)).toInt32) &&& (1431655765 : Int32))).toUInt32 >>> ((2 : Int32).toUInt32 &&& Int32.toUInt32 31)).toInt32) &&& (858993459 : Int32))), .int (((x0 - (((x0.toUInt32 >>> ((1 : Int32).toUInt32 &&& Int32.toUInt32 31)).toInt32) &&& (1431655765 : Int32))) &&& (858993459 : Int32)) + ((((x0 - (((x0.toUInt32 >>> ((1 : Int32).toUInt32 &&& Int32.toUInt32 31)).toInt32) &&& (1431655765 : Int32))).toUInt32 >>> ((2 : Int32).toUInt32 &&& Int32.toUInt32 31)).toInt32) &&& (858993459 : Int32)))] rfl (fun _ => rfl) rfl ?_
  refine dg_s (pc' := 27) [.int (4 : Int32), .int (((x0 - (((x0.toUInt32 >>> ((1 : Int32).toUInt32 &&& Int32.toUInt32 31)).toInt32) &&& (1431655765 : Int32))) &&& (858993459 : Int32)) + ((((x0 - (((x0.toUInt32 >>> ((1 : Int32).toUInt32 &&& Int32.toUInt32 31)).toInt32) &&& (1431655765 : Int32))).toUInt32 >>> ((2 : Int32).toUInt32 &&& Int32.toUInt32 31)).toInt32) &&& (858993459 : Int32))), .int (((x0 - (((x0.toUInt32 >>> ((1 : Int32).toUInt32 &&& Int32.toUInt32 31)).toInt32) &&& (1431655765 : Int32))) &&& (858993459 : Int32)) + ((((x0 - (((x0.toUInt32 >>> ((1 : Int32).toUInt32 &&& Int32.toUInt32 31)).toInt32) &&& (1431655765 : Int32))).toUInt32 >>> ((2 : Int32).toUInt32 &&& Int32.toUInt32 31)).toInt32) &&& (858993459 : Int32)))] rfl (fun _ => rfl) rfl ?_
  refine dg_s (pc' := 28) [.int (((((x0 - (((x0.toUInt32 >>> ((1 : Int32).toUInt32 &&& Int32.toUInt32 31)).toInt32) &&& (1431655765 : Int32))) &&& (858993459 : Int32)) + ((((x0 - (((x0.toUInt32 >>> ((1 : Int32).toUInt32 &&& Int32.toUInt32 31)).toInt32) &&& (1431655765 : Int32))).toUInt32 >>> ((2 : Int32).toUInt32 &&& Int32.toUInt32 31)).toInt32) &&& (858993459 : Int32))).toUInt32 >>> ((4 : Int32).toUInt32 &&& Int32.toUInt32 31)).toInt32), .int (((x0 - (((x0.toUInt32 >>> ((1 : Int32).toUInt32 &&& Int32.toUInt32 31)).toInt32) &&& (1431655765 : Int32))) &&& (858993459 : Int32)) + ((((x0 - (((x0.toUInt32 >>> ((1 : Int32).toUInt32 &&& Int32.toUInt32 31)).toInt32) &&& (1431655765 : Int32))).toUInt32 >>> ((2 : Int32).toUInt32 &&& Int32.toUInt32 31)).toInt32) &&& (858993459 : Int32)))] rfl (fun _ => rfl) rfl ?_
  refine dg_s (pc' := 29) [.int ((((x0 - (((x0.toUInt32 >>> ((1 : Int32).toUInt32 &&& Int32.toUInt32 31)).toInt32) &&& (1431655765 : Int32))) &&& (858993459 : Int32)) + ((((x0 - (((x0.toUInt32 >>> ((1 : Int32).toUInt32 &&& Int32.toUInt32 31)).toInt32) &&& (1431655765 : Int32))).toUInt32 >>> ((2 : Int32).toUInt32 &&& Int32.toUInt32 31)).toInt32) &&& (858993459 : Int32))) + (((((x0 - (((x0.toUInt32 >>> ((1 : Int32).toUInt32 &&& Int32.toUInt32 31)).toInt32) &&& (1431655765 : Int32))) &&& (858993459 : Int32)) + ((((x0 - (((x0.toUInt32 >>> ((1 : Int32).toUInt32 &&& Int32.toUInt32 31)).toInt32) &&& (1431655765 : Int32))).toUInt32 >>> ((2 : Int32).toUInt32 &&& Int32.toUInt32 31)).toInt32) &&& (858993459 : Int32))).toUInt32 >>> ((4 : Int32).toUInt32 &&& Int32.toUInt32 31)).toInt32))] rfl (fun _ => rfl) rfl ?_
  refine dg_s (pc' := 32) [.int (252645135 : Int32), .int ((((x0 - (((x0.toUInt32 >>> ((1 : Int32).toUInt32 &&& Int32.toUInt32 31)).toInt32) &&& (1431655765 : Int32))) &&& (858993459 : Int32)) + ((((x0 - (((x0.toUInt32 >>> ((1 : Int32).toUInt32 &&& Int32.toUInt32 31)).toInt32) &&& (1431655765 : Int32))).toUInt32 >>> ((2 : Int32).toUInt32 &&& Int32.toUInt32 31)).toInt32) &&& (858993459 : Int32))) + (((((x0 - (((x0.toUInt32 >>> ((1 : Int32).toUInt32 &&& Int32.toUInt32 31)).toInt32) &&& (1431655765 : Int32))) &&& (858993459 : Int32)) + ((((x0 - (((x0.toUInt32 >>> ((1 : Int32).toUInt32 &&& Int32.toUInt32 31)).toInt32) &&& (1431655765 : Int32))).toUInt32 >>> ((2 : Int32).toUInt32 &&& Int32.toUInt32 31)).toInt32) &&& (858993459 : Int32))).toUInt32 >>> ((4 : Int32).toUInt32 &&& Int32.toUInt32 31)).toInt32))] rfl (fun _ => rfl) rfl ?_
  refine dg_s (pc' := 33) [.int (((((x0 - (((x0.toUInt32 >>> ((1 : Int32).toUInt32 &&& Int32.toUInt32 31)).toInt32) &&& (1431655765 : Int32))) &&& (858993459 : Int32)) + ((((x0 - (((x0.toUInt32 >>> ((1 : Int32).toUInt32 &&& Int32.toUInt32 31)).toInt32) &&& (1431655765 : Int32))).toUInt32 >>> ((2 : Int32).toUInt32 &&& Int32.toUInt32 31)).toInt32) &&& (858993459 : Int32))) + (((((x0 - (((x0.toUInt32 >>> ((1 : Int32).toUInt32 &&& Int32.toUInt32 31)).toInt32) &&& (1431655765 : Int32))) &&& (858993459 : Int32)) + ((((x0 - (((x0.toUInt32 >>> ((1 : Int32).toUInt32 &&& Int32.toUInt32 31)).toInt32) &&& (1431655765 : Int32))).toUInt32 >>> ((2 : Int32).toUInt32 &&& Int32.toUInt32 31)).toInt32) &&& (858993459 : Int32))).toUInt32 >>> ((4 : Int32).toUInt32 &&& Int32.toUInt32 31)).toInt32)) &&& (252645135 : Int32))] rfl (fun _ => rfl) rfl ?_
  refine dg_L (pc' := 34) [(0, .int (((((x0 - (((x0.toUInt32 >>> ((1 : Int32).toUInt32 &&& Int32.toUInt32 31)).toInt32) &&& (1431655765 : Int32))) &&& (858993459 : Int32)) + ((((x0 - (((x0.toUInt32 >>> ((1 : Int32).toUInt32 &&& Int32.toUInt32 31)).toInt32) &&& (1431655765 : Int32))).toUInt32 >>> ((2 : Int32).toUInt32 &&& Int32.toUInt32 31)).toInt32) &&& (858993459 : Int32))) + (((((x0 - (((x0.toUInt32 >>> ((1 : Int32).toUInt32 &&& Int32.toUInt32 31)).toInt32) &&& (1431655765 : Int32))) &&& (858993459 : Int32)) + ((((x0 - (((x0.toUInt32 >>> ((1 : Int32).toUInt32 &&& Int32.toUInt32 31)).toInt32) &&& (1431655765 : Int32))).toUInt32 >>> ((2 : Int32).toUInt32 &&& Int32.toUInt32 31)).toInt32) &&& (858993459 : Int32))).toUInt32 >>> ((4 : Int32).toUInt32 &&& Int32.toUInt32 31)).toInt32)) &&& (252645135 : Int32)))] [] rfl (fun _ => rfl) rfl ?_
  refine dg_s (pc' := 35) [.int (((((x0 - (((x0.toUInt32 >>> ((1 : Int32).toUInt32 &&& Int32.toUInt32 31)).toInt32) &&& (1431655765 : Int32))) &&& (858993459 : Int32)) + ((((x0 - (((x0.toUInt32 >>> ((1 : Int32).toUInt32 &&& Int32.toUInt32 31)).toInt32) &&& (1431655765 : Int32))).toUInt32 >>> ((2 : Int32).toUInt32 &&& Int32.toUInt32 31)).toInt32) &&& (858993459 : Int32))) + (((((x0 - (((x0.toUInt32 >>> ((1 : Int32).toUInt32 &&& Int32.toUInt32 31)).toInt32) &&& (1431655765 : Int32))) &&& (858993459 : Int32)) + ((((x0 - (((x0.toUInt32 >>> ((1 : Int32).toUInt32 &&& Int32.toUInt32 31)).toInt32) &&& (1431655765 : Int32))).toUInt32 >>> ((2 : Int32).toUInt32 &&& Int32.toUInt32 31)).toInt32) &&& (858993459 : Int32))).toUInt32 >>> ((4 : Int32).toUInt32 &&& Int32.toUInt32 31)).toInt32)) &&& (252645135 : Int32))] rfl (fun _ => rfl) rfl ?_
  refine dg_s (pc' := 36) [.int (((((x0 - (((x0.toUInt32 >>> ((1 : Int32).toUInt32 &&& Int32.toUInt32 31)).toInt32) &&& (1431655765 : Int32))) &&& (858993459 : Int32)) + ((((x0 - (((x0.toUInt32 >>> ((1 : Int32).toUInt32 &&& Int32.toUInt32 31)).toInt32) &&& (1431655765 : Int32))).toUInt32 >>> ((2 : Int32).toUInt32 &&& Int32.toUInt32 31)).toInt32) &&& (858993459 : Int32))) + (((((x0 - (((x0.toUInt32 >>> ((1 : Int32).toUInt32 &&& Int32.toUInt32 31)).toInt32) &&& (1431655765 : Int32))) &&& (858993459 : Int32)) + ((((x0 - (((x0.toUInt32 >>> ((1 : Int32).toUInt32 &&& Int32.toUInt32 31)).toInt32) &&& (1431655765 : Int32))).toUInt32 >>> ((2 : Int32).toUInt32 &&& Int32.toUInt32 31)).toInt32) &&& (858993459 : Int32))).toUInt32 >>> ((4 : Int32).toUInt32 &&& Int32.toUInt32 31)).toInt32)) &&& (252645135 : Int32)), .int (((((x0 - (((x0.toUInt32 >>> ((1 : Int32).toUInt32 &&& Int32.toUInt32 31)).toInt32) &&& (1431655765 : Int32))) &&& (858993459 : Int32)) + ((((x0 - (((x0.toUInt32 >>> ((1 : Int32).toUInt32 &&& Int32.toUInt32 31)).toInt32) &&& (1431655765 : Int32))).toUInt32 >>> ((2 : Int32).toUInt32 &&& Int32.toUInt32 31)).toInt32) &&& (858993459 : Int32))) + (((((x0 - (((x0.toUInt32 >>> ((1 : Int32).toUInt32 &&& Int32.toUInt32 31)).toInt32) &&& (1431655765 : Int32))) &&& (858993459 : Int32)) + ((((x0 - (((x0.toUInt32 >>> ((1 : Int32).toUInt32 &&& Int32.toUInt32 31)).toInt32) &&& (1431655765 : Int32))).toUInt32 >>> ((2 : Int32).toUInt32 &&& Int32.toUInt32 31)).toInt32) &&& (858993459 : Int32))).toUInt32 >>> ((4 : Int32).toUInt32 &&& Int32.toUInt32 31)).toInt32)) &&& (252645135 : Int32))] rfl (fun _ => rfl) rfl ?_
  refine dg_s (pc' := 38) [.int (8 : Int32), .int (((((x0 - (((x0.toUInt32 >>> ((1 : Int32).toUInt32 &&& Int32.toUInt32 31)).toInt32) &&& (1431655765 : Int32))) &&& (858993459 : Int32)) + ((((x0 - (((x0.toUInt32 >>> ((1 : Int32).toUInt32 &&& Int32.toUInt32 31)).toInt32) &&& (1431655765 : Int32))).toUInt32 >>> ((2 : Int32).toUInt32 &&& Int32.toUInt32 31)).toInt32) &&& (858993459 : Int32))) + (((((x0 - (((x0.toUInt32 >>> ((1 : Int32).toUInt32 &&& Int32.toUInt32 31)).toInt32) &&& (1431655765 : Int32))) &&& (858993459 : Int32)) + ((((x0 - (((x0.toUInt32 >>> ((1 : Int32).toUInt32 &&& Int32.toUInt32 31)).toInt32) &&& (1431655765 : Int32))).toUInt32 >>> ((2 : Int32).toUInt32 &&& Int32.toUInt32 31)).toInt32) &&& (858993459 : Int32))).toUInt32 >>> ((4 : Int32).toUInt32 &&& Int32.toUInt32 31)).toInt32)) &&& (252645135 : Int32)), .int (((((x0 - (((x0.toUInt32 >>> ((1 : Int32).toUInt32 &&& Int32.toUInt32 31)).toInt32) &&& (1431655765 : Int32))) &&& (858993459 : Int32)) + ((((x0 - (((x0.toUInt32 >>> ((1 : Int32).toUInt32 &&& Int32.toUInt32 31)).toInt32) &&& (1431655765 : Int32))).toUInt32 >>> ((2 : Int32).toUInt32 &&& Int32.toUInt32 31)).toInt32) &&& (858993459 : Int32))) + (((((x0 - (((x0.toUInt32 >>> ((1 : Int32).toUInt32 &&& Int32.toUInt32 31)).toInt32) &&& (1431655765 : Int32))) &&& (858993459 : Int32)) + ((((x0 - (((x0.toUInt32 >>> ((1 : Int32).toUInt32 &&& Int32.toUInt32 31)).toInt32) &&& (1431655765 : Int32))).toUInt32 >>> ((2 : Int32).toUInt32 &&& Int32.toUInt32 31)).toInt32) &&& (858993459 : Int32))).toUInt32 >>> ((4 : Int32).toUInt32 &&& Int32.toUInt32 31)).toInt32)) &&& (252645135 : Int32))] rfl (fun _ => rfl) rfl ?_
  refine dg_s (pc' := 39) [.int (((((((x0 - (((x0.toUInt32 >>> ((1 : Int32).toUInt32 &&& Int32.toUInt32 31)).toInt32) &&& (1431655765 : Int32))) &&& (858993459 : Int32)) + ((((x0 - (((x0.toUInt32 >>> ((1 : Int32).toUInt32 &&& Int32.toUInt32 31)).toInt32) &&& (1431655765 : Int32))).toUInt32 >>> ((2 : Int32).toUInt32 &&& Int32.toUInt32 31)).toInt32) &&& (858993459 : Int32))) + (((((x0 - (((x0.toUInt32 >>> ((1 : Int32).toUInt32 &&& Int32.toUInt32 31)).toInt32) &&& (1431655765 : Int32))) &&& (858993459 : Int32)) + ((((x0 - (((x0.toUInt32 >>> ((1 : Int32).toUInt32 &&& Int32.toUInt32 31)).toInt32) &&& (1431655765 : Int32))).toUInt32 >>> ((2 : Int32).toUInt32 &&& Int32.toUInt32 31)).toInt32) &&& (858993459 : Int32))).toUInt32 >>> ((4 : Int32).toUInt32 &&& Int32.toUInt32 31)).toInt32)) &&& (252645135 : Int32)).toUInt32 >>> ((8 : Int32).toUInt32 &&& Int32.toUInt32 31)).toInt32), .int (((((x0 - (((x0.toUInt32 >>> ((1 : Int32).toUInt32 &&& Int32.toUInt32 31)).toInt32) &&& (1431655765 : Int32))) &&& (858993459 : Int32)) + ((((x0 - (((x0.toUInt32 >>> ((1 : Int32).toUInt32 &&& Int32.toUInt32 31)).toInt32) &&& (1431655765 : Int32))).toUInt32 >>> ((2 : Int32).toUInt32 &&& Int32.toUInt32 31)).toInt32) &&& (858993459 : Int32))) + (((((x0 - (((x0.toUInt32 >>> ((1 : Int32).toUInt32 &&& Int32.toUInt32 31)).toInt32) &&& (1431655765 : Int32))) &&& (858993459 : Int32)) + ((((x0 - (((x0.toUInt32 >>> ((1 : Int32).toUInt32 &&& Int32.toUInt32 31)).toInt32) &&& (1431655765 : Int32))).toUInt32 >>> ((2 : Int32).toUInt32 &&& Int32.toUInt32 31)).toInt32) &&& (858993459 : Int32))).toUInt32 >>> ((4 : Int32).toUInt32 &&& Int32.toUInt32 31)).toInt32)) &&& (252645135 : Int32))] rfl (fun _ => rfl) rfl ?_
  refine dg_s (pc' := 40) [.int ((((((x0 - (((x0.toUInt32 >>> ((1 : Int32).toUInt32 &&& Int32.toUInt32 31)).toInt32) &&& (1431655765 : Int32))) &&& (858993459 : Int32)) + ((((x0 - (((x0.toUInt32 >>> ((1 : Int32).toUInt32 &&& Int32.toUInt32 31)).toInt32) &&& (1431655765 : Int32))).toUInt32 >>> ((2 : Int32).toUInt32 &&& Int32.toUInt32 31)).toInt32) &&& (858993459 : Int32))) + (((((x0 - (((x0.toUInt32 >>> ((1 : Int32).toUInt32 &&& Int32.toUInt32 31)).toInt32) &&& (1431655765 : Int32))) &&& (858993459 : Int32)) + ((((x0 - (((x0.toUInt32 >>> ((1 : Int32).toUInt32 &&& Int32.toUInt32 31)).toInt32) &&& (1431655765 : Int32))).toUInt32 >>> ((2 : Int32).toUInt32 &&& Int32.toUInt32 31)).toInt32) &&& (858993459 : Int32))).toUInt32 >>> ((4 : Int32).toUInt32 &&& Int32.toUInt32 31)).toInt32)) &&& (252645135 : Int32)) + (((((((x0 - (((x0.toUInt32 >>> ((1 : Int32).toUInt32 &&& Int32.toUInt32 31)).toInt32) &&& (1431655765 : Int32))) &&& (858993459 : Int32)) + ((((x0 - (((x0.toUInt32 >>> ((1 : Int32).toUInt32 &&& Int32.toUInt32 31)).toInt32) &&& (1431655765 : Int32))).toUInt32 >>> ((2 : Int32).toUInt32 &&& Int32.toUInt32 31)).toInt32) &&& (858993459 : Int32))) + (((((x0 - (((x0.toUInt32 >>> ((1 : Int32).toUInt32 &&& Int32.toUInt32 31)).toInt32) &&& (1431655765 : Int32))) &&& (858993459 : Int32)) + ((((x0 - (((x0.toUInt32 >>> ((1 : Int32).toUInt32 &&& Int32.toUInt32 31)).toInt32) &&& (1431655765 : Int32))).toUInt32 >>> ((2 : Int32).toUInt32 &&& Int32.toUInt32 31)).toInt32) &&& (858993459 : Int32))).toUInt32 >>> ((4 : Int32).toUInt32 &&& Int32.toUInt32 31)).toInt32)) &&& (252645135 : Int32)).toUInt32 >>> ((8 : Int32).toUInt32 &&& Int32.toUInt32 31)).toInt32))] rfl (fun _ => rfl) rfl ?_
  refine dg_L (pc' := 41) [(0, .int ((((((x0 - (((x0.toUInt32 >>> ((1 : Int32).toUInt32 &&& Int32.toUInt32 31)).toInt32) &&& (1431655765 : Int32))) &&& (858993459 : Int32)) + ((((x0 - (((x0.toUInt32 >>> ((1 : Int32).toUInt32 &&& Int32.toUInt32 31)).toInt32) &&& (1431655765 : Int32))).toUInt32 >>> ((2 : Int32).toUInt32 &&& Int32.toUInt32 31)).toInt32) &&& (858993459 : Int32))) + (((((x0 - (((x0.toUInt32 >>> ((1 : Int32).toUInt32 &&& Int32.toUInt32 31)).toInt32) &&& (1431655765 : Int32))) &&& (858993459 : Int32)) + ((((x0 - (((x0.toUInt32 >>> ((1 : Int32).toUInt32 &&& Int32.toUInt32 31)).toInt32) &&& (1431655765 : Int32))).toUInt32 >>> ((2 : Int32).toUInt32 &&& Int32.toUInt32 31)).toInt32) &&& (858993459 : Int32))).toUInt32 >>> ((4 : Int32).toUInt32 &&& Int32.toUInt32 31)).toInt32)) &&& (252645135 : Int32)) + (((((((x0 - (((x0.toUInt32 >>> ((1 : Int32).toUInt32 &&& Int32.toUInt32 31)).toInt32) &&& (1431655765 : Int32))) &&& (858993459 : Int32)) + ((((x0 - (((x0.toUInt32 >>> ((1 : Int32).toUInt32 &&& Int32.toUInt32 31)).toInt32) &&& (1431655765 : Int32))).toUInt32 >>> ((2 : Int32).toUInt32 &&& Int32.toUInt32 31)).toInt32) &&& (858993459 : Int32))) + (((((x0 - (((x0.toUInt32 >>> ((1 : Int32).toUInt32 &&& Int32.toUInt32 31)).toInt32) &&& (1431655765 : Int32))) &&& (858993459 : Int32)) + ((((x0 - (((x0.toUInt32 >>> ((1 : Int32).toUInt32 &&& Int32.toUInt32 31)).toInt32) &&& (1431655765 : Int32))).toUInt32 >>> ((2 : Int32).toUInt32 &&& Int32.toUInt32 31)).toInt32) &&& (858993459 : Int32))).toUInt32 >>> ((4 : Int32).toUInt32 &&& Int32.toUInt32 31)).toInt32)) &&& (252645135 : Int32)).toUInt32 >>> ((8 : Int32).toUInt32 &&& Int32.toUInt32 31)).toInt32)))] [] rfl (fun _ => rfl) rfl ?_
  refine dg_s (pc' := 42) [.int ((((((x0 - (((x0.toUInt32 >>> ((1 : Int32).toUInt32 &&& Int32.toUInt32 31)).toInt32) &&& (1431655765 : Int32))) &&& (858993459 : Int32)) + ((((x0 - (((x0.toUInt32 >>> ((1 : Int32).toUInt32 &&& Int32.toUInt32 31)).toInt32) &&& (1431655765 : Int32))).toUInt32 >>> ((2 : Int32).toUInt32 &&& Int32.toUInt32 31)).toInt32) &&& (858993459 : Int32))) + (((((x0 - (((x0.toUInt32 >>> ((1 : Int32).toUInt32 &&& Int32.toUInt32 31)).toInt32) &&& (1431655765 : Int32))) &&& (858993459 : Int32)) + ((((x0 - (((x0.toUInt32 >>> ((1 : Int32).toUInt32 &&& Int32.toUInt32 31)).toInt32) &&& (1431655765 : Int32))).toUInt32 >>> ((2 : Int32).toUInt32 &&& Int32.toUInt32 31)).toInt32) &&& (858993459 : Int32))).toUInt32 >>> ((4 : Int32).toUInt32 &&& Int32.toUInt32 31)).toInt32)) &&& (252645135 : Int32)) + (((((((x0 - (((x0.toUInt32 >>> ((1 : Int32).toUInt32 &&& Int32.toUInt32 31)).toInt32) &&& (1431655765 : Int32))) &&& (858993459 : Int32)) + ((((x0 - (((x0.toUInt32 >>> ((1 : Int32).toUInt32 &&& Int32.toUInt32 31)).toInt32) &&& (1431655765 : Int32))).toUInt32 >>> ((2 : Int32).toUInt32 &&& Int32.toUInt32 31)).toInt32) &&& (858993459 : Int32))) + (((((x0 - (((x0.toUInt32 >>> ((1 : Int32).toUInt32 &&& Int32.toUInt32 31)).toInt32) &&& (1431655765 : Int32))) &&& (858993459 : Int32)) + ((((x0 - (((x0.toUInt32 >>> ((1 : Int32).toUInt32 &&& Int32.toUInt32 31)).toInt32) &&& (1431655765 : Int32))).toUInt32 >>> ((2 : Int32).toUInt32 &&& Int32.toUInt32 31)).toInt32) &&& (858993459 : Int32))).toUInt32 >>> ((4 : Int32).toUInt32 &&& Int32.toUInt32 31)).toInt32)) &&& (252645135 : Int32)).toUInt32 >>> ((8 : Int32).toUInt32 &&& Int32.toUInt32 31)).toInt32))] rfl (fun _ => rfl) rfl ?_
  refine dg_s (pc' := 43) [.int ((((((x0 - (((x0.toUInt32 >>> ((1 : Int32).toUInt32 &&& Int32.toUInt32 31)).toInt32) &&& (1431655765 : Int32))) &&& (858993459 : Int32)) + ((((x0 - (((x0.toUInt32 >>> ((1 : Int32).toUInt32 &&& Int32.toUInt32 31)).toInt32) &&& (1431655765 : Int32))).toUInt32 >>> ((2 : Int32).toUInt32 &&& Int32.toUInt32 31)).toInt32) &&& (858993459 : Int32))) + (((((x0 - (((x0.toUInt32 >>> ((1 : Int32).toUInt32 &&& Int32.toUInt32 31)).toInt32) &&& (1431655765 : Int32))) &&& (858993459 : Int32)) + ((((x0 - (((x0.toUInt32 >>> ((1 : Int32).toUInt32 &&& Int32.toUInt32 31)).toInt32) &&& (1431655765 : Int32))).toUInt32 >>> ((2 : Int32).toUInt32 &&& Int32.toUInt32 31)).toInt32) &&& (858993459 : Int32))).toUInt32 >>> ((4 : Int32).toUInt32 &&& Int32.toUInt32 31)).toInt32)) &&& (252645135 : Int32)) + (((((((x0 - (((x0.toUInt32 >>> ((1 : Int32).toUInt32 &&& Int32.toUInt32 31)).toInt32) &&& (1431655765 : Int32))) &&& (858993459 : Int32)) + ((((x0 - (((x0.toUInt32 >>> ((1 : Int32).toUInt32 &&& Int32.toUInt32 31)).toInt32) &&& (1431655765 : Int32))).toUInt32 >>> ((2 : Int32).toUInt32 &&& Int32.toUInt32 31)).toInt32) &&& (858993459 : Int32))) + (((((x0 - (((x0.toUInt32 >>> ((1 : Int32).toUInt32 &&& Int32.toUInt32 31)).toInt32) &&& (1431655765 : Int32))) &&& (858993459 : Int32)) + ((((x0 - (((x0.toUInt32 >>> ((1 : Int32).toUInt32 &&& Int32.toUInt32 31)).toInt32) &&& (1431655765 : Int32))).toUInt32 >>> ((2 : Int32).toUInt32 &&& Int32.toUInt32 31)).toInt32) &&& (858993459 : Int32))).toUInt32 >>> ((4 : Int32).toUInt32 &&& Int32.toUInt32 31)).toInt32)) &&& (252645135 : Int32)).toUInt32 >>> ((8 : Int32).toUInt32 &&& Int32.toUInt32 31)).toInt32)), .int ((((((x0 - (((x0.toUInt32 >>> ((1 : Int32).toUInt32 &&& Int32.toUInt32 31)).toInt32) &&& (1431655765 : Int32))) &&& (858993459 : Int32)) + ((((x0 - (((x0.toUInt32 >>> ((1 : Int32).toUInt32 &&& Int32.toUInt32 31)).toInt32) &&& (1431655765 : Int32))).toUInt32 >>> ((2 : Int32).toUInt32 &&& Int32.toUInt32 31)).toInt32) &&& (858993459 : Int32))) + (((((x0 - (((x0.toUInt32 >>> ((1 : Int32).toUInt32 &&& Int32.toUInt32 31)).toInt32) &&& (1431655765 : Int32))) &&& (858993459 : Int32)) + ((((x0 - (((x0.toUInt32 >>> ((1 : Int32).toUInt32 &&& Int32.toUInt32 31)).toInt32) &&& (1431655765 : Int32))).toUInt32 >>> ((2 : Int32).toUInt32 &&& Int32.toUInt32 31)).toInt32) &&& (858993459 : Int32))).toUInt32 >>> ((4 : Int32).toUInt32 &&& Int32.toUInt32 31)).toInt32)) &&& (252645135 : Int32)) + (((((((x0 - (((x0.toUInt32 >>> ((1 : Int32).toUInt32 &&& Int32.toUInt32 31)).toInt32) &&& (1431655765 : Int32))) &&& (858993459 : Int32)) + ((((x0 - (((x0.toUInt32 >>> ((1 : Int32).toUInt32 &&& Int32.toUInt32 31)).toInt32) &&& (1431655765 : Int32))).toUInt32 >>> ((2 : Int32).toUInt32 &&& Int32.toUInt32 31)).toInt32) &&& (858993459 : Int32))) + (((((x0 - (((x0.toUInt32 >>> ((1 : Int32).toUInt32 &&& Int32.toUInt32 31)).toInt32) &&& (1431655765 : Int32))) &&& (858993459 : Int32)) + ((((x0 - (((x0.toUInt32 >>> ((1 : Int32).toUInt32 &&& Int32.toUInt32 31)).toInt32) &&& (1431655765 : Int32))).toUInt32 >>> ((2 : Int32).toUInt32 &&& Int32.toUInt32 31)).toInt32) &&& (858993459 : Int32))).toUInt32 >>> ((4 : Int32).toUInt32 &&& Int32.toUInt32 31)).toInt32)) &&& (252645135 : Int32)).toUInt32 >>> ((8 : Int32).toUInt32 &&& Int32.toUInt32 31)).toInt32))] rfl (fun _ => rfl) rfl ?_
  refine dg_s (pc' := 45) [.int (16 : Int32), .int ((((((x0 - (((x0.toUInt32 >>> ((1 : Int32).toUInt32 &&& Int32.toUInt32 31)).toInt32) &&& (1431655765 : Int32))) &&& (858993459 : Int32)) + ((((x0 - (((x0.toUInt32 >>> ((1 : Int32).toUInt32 &&& Int32.toUInt32 31)).toInt32) &&& (1431655765 : Int32))).toUInt32 >>> ((2 : Int32).toUInt32 &&& Int32.toUInt32 31)).toInt32) &&& (858993459 : Int32))) + (((((x0 - (((x0.toUInt32 >>> ((1 : Int32).toUInt32 &&& Int32.toUInt32 31)).toInt32) &&& (1431655765 : Int32))) &&& (858993459 : Int32)) + ((((x0 - (((x0.toUInt32 >>> ((1 : Int32).toUInt32 &&& Int32.toUInt32 31)).toInt32) &&& (1431655765 : Int32))).toUInt32 >>> ((2 : Int32).toUInt32 &&& Int32.toUInt32 31)).toInt32) &&& (858993459 : Int32))).toUInt32 >>> ((4 : Int32).toUInt32 &&& Int32.toUInt32 31)).toInt32)) &&& (252645135 : Int32)) + (((((((x0 - (((x0.toUInt32 >>> ((1 : Int32).toUInt32 &&& Int32.toUInt32 31)).toInt32) &&& (1431655765 : Int32))) &&& (858993459 : Int32)) + ((((x0 - (((x0.toUInt32 >>> ((1 : Int32).toUInt32 &&& Int32.toUInt32 31)).toInt32) &&& (1431655765 : Int32))).toUInt32 >>> ((2 : Int32).toUInt32 &&& Int32.toUInt32 31)).toInt32) &&& (858993459 : Int32))) + (((((x0 - (((x0.toUInt32 >>> ((1 : Int32).toUInt32 &&& Int32.toUInt32 31)).toInt32) &&& (1431655765 : Int32))) &&& (858993459 : Int32)) + ((((x0 - (((x0.toUInt32 >>> ((1 : Int32).toUInt32 &&& Int32.toUInt32 31)).toInt32) &&& (1431655765 : Int32))).toUInt32 >>> ((2 : Int32).toUInt32 &&& Int32.toUInt32 31)).toInt32) &&& (858993459 : Int32))).toUInt32 >>> ((4 : Int32).toUInt32 &&& Int32.toUInt32 31)).toInt32)) &&& (252645135 : Int32)).toUInt32 >>> ((8 : Int32).toUInt32 &&& Int32.toUInt32 31)).toInt32)), .int ((((((x0 - (((x0.toUInt32 >>> ((1 : Int32).toUInt32 &&& Int32.toUInt32 31)).toInt32) &&& (1431655765 : Int32))) &&& (858993459 : Int32)) + ((((x0 - (((x0.toUInt32 >>> ((1 : Int32).toUInt32 &&& Int32.toUInt32 31)).toInt32) &&& (1431655765 : Int32))).toUInt32 >>> ((2 : Int32).toUInt32 &&& Int32.toUInt32 31)).toInt32) &&& (858993459 : Int32))) + (((((x0 - (((x0.toUInt32 >>> ((1 : Int32).toUInt32 &&& Int32.toUInt32 31)).toInt32) &&& (1431655765 : Int32))) &&& (858993459 : Int32)) + ((((x0 - (((x0.toUInt32 >>> ((1 : Int32).toUInt32 &&& Int32.toUInt32 31)).toInt32) &&& (1431655765 : Int32))).toUInt32 >>> ((2 : Int32).toUInt32 &&& Int32.toUInt32 31)).toInt32) &&& (858993459 : Int32))).toUInt32 >>> ((4 : Int32).toUInt32 &&& Int32.toUInt32 31)).toInt32)) &&& (252645135 : Int32)) + (((((((x0 - (((x0.toUInt32 >>> ((1 : Int32).toUInt32 &&& Int32.toUInt32 31)).toInt32) &&& (1431655765 : Int32))) &&& (858993459 : Int32)) + ((((x0 - (((x0.toUInt32 >>> ((1 : Int32).toUInt32 &&& Int32.toUInt32 31)).toInt32) &&& (1431655765 : Int32))).toUInt32 >>> ((2 : Int32).toUInt32 &&& Int32.toUInt32 31)).toInt32) &&& (858993459 : Int32))) + (((((x0 - (((x0.toUInt32 >>> ((1 : Int32).toUInt32 &&& Int32.toUInt32 31)).toInt32) &&& (1431655765 : Int32))) &&& (858993459 : Int32)) + ((((x0 - (((x0.toUInt32 >>> ((1 : Int32).toUInt32 &&& Int32.toUInt32 31)).toInt32) &&& (1431655765 : Int32))).toUInt32 >>> ((2 : Int32).toUInt32 &&& Int32.toUInt32 31)).toInt32) &&& (858993459 : Int32))).toUInt32 >>> ((4 : Int32).toUInt32 &&& Int32.toUInt32 31)).toInt32)) &&& (252645135 : Int32)).toUInt32 >>> ((8 : Int32).toUInt32 &&& Int32.toUInt32 31)).toInt32))] rfl (fun _ => rfl) rfl ?_
  refine dg_s (pc' := 46) [.int ((((((((x0 - (((x0.toUInt32 >>> ((1 : Int32).toUInt32 &&& Int32.toUInt32 31)).toInt32) &&& (1431655765 : Int32))) &&& (858993459 : Int32)) + ((((x0 - (((x0.toUInt32 >>> ((1 : Int32).toUInt32 &&& Int32.toUInt32 31)).toInt32) &&& (1431655765 : Int32))).toUInt32 >>> ((2 : Int32).toUInt32 &&& Int32.toUInt32 31)).toInt32) &&& (858993459 : Int32))) + (((((x0 - (((x0.toUInt32 >>> ((1 : Int32).toUInt32 &&& Int32.toUInt32 31)).toInt32) &&& (1431655765 : Int32))) &&& (858993459 : Int32)) + ((((x0 - (((x0.toUInt32 >>> ((1 : Int32).toUInt32 &&& Int32.toUInt32 31)).toInt32) &&& (1431655765 : Int32))).toUInt32 >>> ((2 : Int32).toUInt32 &&& Int32.toUInt32 31)).toInt32) &&& (858993459 : Int32))).toUInt32 >>> ((4 : Int32).toUInt32 &&& Int32.toUInt32 31)).toInt32)) &&& (252645135 : Int32)) + (((((((x0 - (((x0.toUInt32 >>> ((1 : Int32).toUInt32 &&& Int32.toUInt32 31)).toInt32) &&& (1431655765 : Int32))) &&& (858993459 : Int32)) + ((((x0 - (((x0.toUInt32 >>> ((1 : Int32).toUInt32 &&& Int32.toUInt32 31)).toInt32) &&& (1431655765 : Int32))).toUInt32 >>> ((2 : Int32).toUInt32 &&& Int32.toUInt32 31)).toInt32) &&& (858993459 : Int32))) + (((((x0 - (((x0.toUInt32 >>> ((1 : Int32).toUInt32 &&& Int32.toUInt32 31)).toInt32) &&& (1431655765 : Int32))) &&& (858993459 : Int32)) + ((((x0 - (((x0.toUInt32 >>> ((1 : Int32).toUInt32 &&& Int32.toUInt32 31)).toInt32) &&& (1431655765 : Int32))).toUInt32 >>> ((2 : Int32).toUInt32 &&& Int32.toUInt32 31)).toInt32) &&& (858993459 : Int32))).toUInt32 >>> ((4 : Int32).toUInt32 &&& Int32.toUInt32 31)).toInt32)) &&& (252645135 : Int32)).toUInt32 >>> ((8 : Int32).toUInt32 &&& Int32.toUInt32 31)).toInt32)).toUInt32 >>> ((16 : Int32).toUInt32 &&& Int32.toUInt32 31)).toInt32), .int ((((((x0 - (((x0.toUInt32 >>> ((1 : Int32).toUInt32 &&& Int32.toUInt32 31)).toInt32) &&& (1431655765 : Int32))) &&& (858993459 : Int32)) + ((((x0 - (((x0.toUInt32 >>> ((1 : Int32).toUInt32 &&& Int32.toUInt32 31)).toInt32) &&& (1431655765 : Int32))).toUInt32 >>> ((2 : Int32).toUInt32 &&& Int32.toUInt32 31)).toInt32) &&& (858993459 : Int32))) + (((((x0 - (((x0.toUInt32 >>> ((1 : Int32).toUInt32 &&& Int32.toUInt32 31)).toInt32) &&& (1431655765 : Int32))) &&& (858993459 : Int32)) + ((((x0 - (((x0.toUInt32 >>> ((1 : Int32).toUInt32 &&& Int32.toUInt32 31)).toInt32) &&& (1431655765 : Int32))).toUInt32 >>> ((2 : Int32).toUInt32 &&& Int32.toUInt32 31)).toInt32) &&& (858993459 : Int32))).toUInt32 >>> ((4 : Int32).toUInt32 &&& Int32.toUInt32 31)).toInt32)) &&& (252645135 : Int32)) + (((((((x0 - (((x0.toUInt32 >>> ((1 : Int32).toUInt32 &&& Int32.toUInt32 31)).toInt32) &&& (1431655765 : Int32))) &&& (858993459 : Int32)) + ((((x0 - (((x0.toUInt32 >>> ((1 : Int32).toUInt32 &&& Int32.toUInt32 31)).toInt32) &&& (1431655765 : Int32))).toUInt32 >>> ((2 : Int32).toUInt32 &&& Int32.toUInt32 31)).toInt32) &&& (858993459 : Int32))) + (((((x0 - (((x0.toUInt32 >>> ((1 : Int32).toUInt32 &&& Int32.toUInt32 31)).toInt32) &&& (1431655765 : Int32))) &&& (858993459 : Int32)) + ((((x0 - (((x0.toUInt32 >>> ((1 : Int32).toUInt32 &&& Int32.toUInt32 31)).toInt32) &&& (1431655765 : Int32))).toUInt32 >>> ((2 : Int32).toUInt32 &&& Int32.toUInt32 31)).toInt32) &&& (858993459 : Int32))).toUInt32 >>> ((4 : Int32).toUInt32 &&& Int32.toUInt32 31)).toInt32)) &&& (252645135 : Int32)).toUInt32 >>> ((8 : Int32).toUInt32 &&& Int32.toUInt32 31)).toInt32))] rfl (fun _ => rfl) rfl ?_
  refine dg_s (pc' := 47) [.int (((((((x0 - (((x0.toUInt32 >>> ((1 : Int32).toUInt32 &&& Int32.toUInt32 31)).toInt32) &&& (1431655765 : Int32))) &&& (858993459 : Int32)) + ((((x0 - (((x0.toUInt32 >>> ((1 : Int32).toUInt32 &&& Int32.toUInt32 31)).toInt32) &&& (1431655765 : Int32))).toUInt32 >>> ((2 : Int32).toUInt32 &&& Int32.toUInt32 31)).toInt32) &&& (858993459 : Int32))) + (((((x0 - (((x0.toUInt32 >>> ((1 : Int32).toUInt32 &&& Int32.toUInt32 31)).toInt32) &&& (1431655765 : Int32))) &&& (858993459 : Int32)) + ((((x0 - (((x0.toUInt32 >>> ((1 : Int32).toUInt32 &&& Int32.toUInt32 31)).toInt32) &&& (1431655765 : Int32))).toUInt32 >>> ((2 : Int32).toUInt32 &&& Int32.toUInt32 31)).toInt32) &&& (858993459 : Int32))).toUInt32 >>> ((4 : Int32).toUInt32 &&& Int32.toUInt32 31)).toInt32)) &&& (252645135 : Int32)) + (((((((x0 - (((x0.toUInt32 >>> ((1 : Int32).toUInt32 &&& Int32.toUInt32 31)).toInt32) &&& (1431655765 : Int32))) &&& (858993459 : Int32)) + ((((x0 - (((x0.toUInt32 >>> ((1 : Int32).toUInt32 &&& Int32.toUInt32 31)).toInt32) &&& (1431655765 : Int32))).toUInt32 >>> ((2 : Int32).toUInt32 &&& Int32.toUInt32 31)).toInt32) &&& (858993459 : Int32))) + (((((x0 - (((x0.toUInt32 >>> ((1 : Int32).toUInt32 &&& Int32.toUInt32 31)).toInt32) &&& (1431655765 : Int32))) &&& (858993459 : Int32)) + ((((x0 - (((x0.toUInt32 >>> ((1 : Int32).toUInt32 &&& Int32.toUInt32 31)).toInt32) &&& (1431655765 : Int32))).toUInt32 >>> ((2 : Int32).toUInt32 &&& Int32.toUInt32 31)).toInt32) &&& (858993459 : Int32))).toUInt32 >>> ((4 : Int32).toUInt32 &&& Int32.toUInt32 31)).toInt32)) &&& (252645135 : Int32)).toUInt32 >>> ((8 : Int32).toUInt32 &&& Int32.toUInt32 31)).toInt32)) + ((((((((x0 - (((x0.toUInt32 >>> ((1 : Int32).toUInt32 &&& Int32.toUInt32 31)).toInt32) &&& (1431655765 : Int32))) &&& (858993459 : Int32)) + ((((x0 - (((x0.toUInt32 >>> ((1 : Int32).toUInt32 &&& Int32.toUInt32 31)).toInt32) &&& (1431655765 : Int32))).toUInt32 >>> ((2 : Int32).toUInt32 &&& Int32.toUInt32 31)).toInt32) &&& (858993459 : Int32))) + (((((x0 - (((x0.toUInt32 >>> ((1 : Int32).toUInt32 &&& Int32.toUInt32 31)).toInt32) &&& (1431655765 : Int32))) &&& (858993459 : Int32)) + ((((x0 - (((x0.toUInt32 >>> ((1 : Int32).toUInt32 &&& Int32.toUInt32 31)).toInt32) &&& (1431655765 : Int32))).toUInt32 >>> ((2 : Int32).toUInt32 &&& Int32.toUInt32 31)).toInt32) &&& (858993459 : Int32))).toUInt32 >>> ((4 : Int32).toUInt32 &&& Int32.toUInt32 31)).toInt32)) &&& (252645135 : Int32)) + (((((((x0 - (((x0.toUInt32 >>> ((1 : Int32).toUInt32 &&& Int32.toUInt32 31)).toInt32) &&& (1431655765 : Int32))) &&& (858993459 : Int32)) + ((((x0 - (((x0.toUInt32 >>> ((1 : Int32).toUInt32 &&& Int32.toUInt32 31)).toInt32) &&& (1431655765 : Int32))).toUInt32 >>> ((2 : Int32).toUInt32 &&& Int32.toUInt32 31)).toInt32) &&& (858993459 : Int32))) + (((((x0 - (((x0.toUInt32 >>> ((1 : Int32).toUInt32 &&& Int32.toUInt32 31)).toInt32) &&& (1431655765 : Int32))) &&& (858993459 : Int32)) + ((((x0 - (((x0.toUInt32 >>> ((1 : Int32).toUInt32 &&& Int32.toUInt32 31)).toInt32) &&& (1431655765 : Int32))).toUInt32 >>> ((2 : Int32).toUInt32 &&& Int32.toUInt32 31)).toInt32) &&& (858993459 : Int32))).toUInt32 >>> ((4 : Int32).toUInt32 &&& Int32.toUInt32 31)).toInt32)) &&& (252645135 : Int32)).toUInt32 >>> ((8 : Int32).toUInt32 &&& Int32.toUInt32 31)).toInt32)).toUInt32 >>> ((16 : Int32).toUInt32 &&& Int32.toUInt32 31)).toInt32))] rfl (fun _ => rfl) rfl ?_
  refine dg_L (pc' := 48) [(0, .int (((((((x0 - (((x0.toUInt32 >>> ((1 : Int32).toUInt32 &&& Int32.toUInt32 31)).toInt32) &&& (1431655765 : Int32))) &&& (858993459 : Int32)) + ((((x0 - (((x0.toUInt32 >>> ((1 : Int32).toUInt32 &&& Int32.toUInt32 31)).toInt32) &&& (1431655765 : Int32))).toUInt32 >>> ((2 : Int32).toUInt32 &&& Int32.toUInt32 31)).toInt32) &&& (858993459 : Int32))) + (((((x0 - (((x0.toUInt32 >>> ((1 : Int32).toUInt32 &&& Int32.toUInt32 31)).toInt32) &&& (1431655765 : Int32))) &&& (858993459 : Int32)) + ((((x0 - (((x0.toUInt32 >>> ((1 : Int32).toUInt32 &&& Int32.toUInt32 31)).toInt32) &&& (1431655765 : Int32))).toUInt32 >>> ((2 : Int32).toUInt32 &&& Int32.toUInt32 31)).toInt32) &&& (858993459 : Int32))).toUInt32 >>> ((4 : Int32).toUInt32 &&& Int32.toUInt32 31)).toInt32)) &&& (252645135 : Int32)) + (((((((x0 - (((x0.toUInt32 >>> ((1 : Int32).toUInt32 &&& Int32.toUInt32 31)).toInt32) &&& (1431655765 : Int32))) &&& (858993459 : Int32)) + ((((x0 - (((x0.toUInt32 >>> ((1 : Int32).toUInt32 &&& Int32.toUInt32 31)).toInt32) &&& (1431655765 : Int32))).toUInt32 >>> ((2 : Int32).toUInt32 &&& Int32.toUInt32 31)).toInt32) &&& (858993459 : Int32))) + (((((x0 - (((x0.toUInt32 >>> ((1 : Int32).toUInt32 &&& Int32.toUInt32 31)).toInt32) &&& (1431655765 : Int32))) &&& (858993459 : Int32)) + ((((x0 - (((x0.toUInt32 >>> ((1 : Int32).toUInt32 &&& Int32.toUInt32 31)).toInt32) &&& (1431655765 : Int32))).toUInt32 >>> ((2 : Int32).toUInt32 &&& Int32.toUInt32 31)).toInt32) &&& (858993459 : Int32))).toUInt32 >>> ((4 : Int32).toUInt32 &&& Int32.toUInt32 31)).toInt32)) &&& (252645135 : Int32)).toUInt32 >>> ((8 : Int32).toUInt32 &&& Int32.toUInt32 31)).toInt32)) + ((((((((x0 - (((x0.toUInt32 >>> ((1 : Int32).toUInt32 &&& Int32.toUInt32 31)).toInt32) &&& (1431655765 : Int32))) &&& (858993459 : Int32)) + ((((x0 - (((x0.toUInt32 >>> ((1 : Int32).toUInt32 &&& Int32.toUInt32 31)).toInt32) &&& (1431655765 : Int32))).toUInt32 >>> ((2 : Int32).toUInt32 &&& Int32.toUInt32 31)).toInt32) &&& (858993459 : Int32))) + (((((x0 - (((x0.toUInt32 >>> ((1 : Int32).toUInt32 &&& Int32.toUInt32 31)).toInt32) &&& (1431655765 : Int32))) &&& (858993459 : Int32)) + ((((x0 - (((x0.toUInt32 >>> ((1 : Int32).toUInt32 &&& Int32.toUInt32 31)).toInt32) &&& (1431655765 : Int32))).toUInt32 >>> ((2 : Int32).toUInt32 &&& Int32.toUInt32 31)).toInt32) &&& (858993459 : Int32))).toUInt32 >>> ((4 : Int32).toUInt32 &&& Int32.toUInt32 31)).toInt32)) &&& (252645135 : Int32)) + (((((((x0 - (((x0.toUInt32 >>> ((1 : Int32).toUInt32 &&& Int32.toUInt32 31)).toInt32) &&& (1431655765 : Int32))) &&& (858993459 : Int32)) + ((((x0 - (((x0.toUInt32 >>> ((1 : Int32).toUInt32 &&& Int32.toUInt32 31)).toInt32) &&& (1431655765 : Int32))).toUInt32 >>> ((2 : Int32).toUInt32 &&& Int32.toUInt32 31)).toInt32) &&& (858993459 : Int32))) + (((((x0 - (((x0.toUInt32 >>> ((1 : Int32).toUInt32 &&& Int32.toUInt32 31)).toInt32) &&& (1431655765 : Int32))) &&& (858993459 : Int32)) + ((((x0 - (((x0.toUInt32 >>> ((1 : Int32).toUInt32 &&& Int32.toUInt32 31)).toInt32) &&& (1431655765 : Int32))).toUInt32 >>> ((2 : Int32).toUInt32 &&& Int32.toUInt32 31)).toInt32) &&& (858993459 : Int32))).toUInt32 >>> ((4 : Int32).toUInt32 &&& Int32.toUInt32 31)).toInt32)) &&& (252645135 : Int32)).toUInt32 >>> ((8 : Int32).toUInt32 &&& Int32.toUInt32 31)).toInt32)).toUInt32 >>> ((16 : Int32).toUInt32 &&& Int32.toUInt32 31)).toInt32)))] [] rfl (fun _ => rfl) rfl ?_
  refine dg_s (pc' := 49) [.int (((((((x0 - (((x0.toUInt32 >>> ((1 : Int32).toUInt32 &&& Int32.toUInt32 31)).toInt32) &&& (1431655765 : Int32))) &&& (858993459 : Int32)) + ((((x0 - (((x0.toUInt32 >>> ((1 : Int32).toUInt32 &&& Int32.toUInt32 31)).toInt32) &&& (1431655765 : Int32))).toUInt32 >>> ((2 : Int32).toUInt32 &&& Int32.toUInt32 31)).toInt32) &&& (858993459 : Int32))) + (((((x0 - (((x0.toUInt32 >>> ((1 : Int32).toUInt32 &&& Int32.toUInt32 31)).toInt32) &&& (1431655765 : Int32))) &&& (858993459 : Int32)) + ((((x0 - (((x0.toUInt32 >>> ((1 : Int32).toUInt32 &&& Int32.toUInt32 31)).toInt32) &&& (1431655765 : Int32))).toUInt32 >>> ((2 : Int32).toUInt32 &&& Int32.toUInt32 31)).toInt32) &&& (858993459 : Int32))).toUInt32 >>> ((4 : Int32).toUInt32 &&& Int32.toUInt32 31)).toInt32)) &&& (252645135 : Int32)) + (((((((x0 - (((x0.toUInt32 >>> ((1 : Int32).toUInt32 &&& Int32.toUInt32 31)).toInt32) &&& (1431655765 : Int32))) &&& (858993459 : Int32)) + ((((x0 - (((x0.toUInt32 >>> ((1 : Int32).toUInt32 &&& Int32.toUInt32 31)).toInt32) &&& (1431655765 : Int32))).toUInt32 >>> ((2 : Int32).toUInt32 &&& Int32.toUInt32 31)).toInt32) &&& (858993459 : Int32))) + (((((x0 - (((x0.toUInt32 >>> ((1 : Int32).toUInt32 &&& Int32.toUInt32 31)).toInt32) &&& (1431655765 : Int32))) &&& (858993459 : Int32)) + ((((x0 - (((x0.toUInt32 >>> ((1 : Int32).toUInt32 &&& Int32.toUInt32 31)).toInt32) &&& (1431655765 : Int32))).toUInt32 >>> ((2 : Int32).toUInt32 &&& Int32.toUInt32 31)).toInt32) &&& (858993459 : Int32))).toUInt32 >>> ((4 : Int32).toUInt32 &&& Int32.toUInt32 31)).toInt32)) &&& (252645135 : Int32)).toUInt32 >>> ((8 : Int32).toUInt32 &&& Int32.toUInt32 31)).toInt32)) + ((((((((x0 - (((x0.toUInt32 >>> ((1 : Int32).toUInt32 &&& Int32.toUInt32 31)).toInt32) &&& (1431655765 : Int32))) &&& (858993459 : Int32)) + ((((x0 - (((x0.toUInt32 >>> ((1 : Int32).toUInt32 &&& Int32.toUInt32 31)).toInt32) &&& (1431655765 : Int32))).toUInt32 >>> ((2 : Int32).toUInt32 &&& Int32.toUInt32 31)).toInt32) &&& (858993459 : Int32))) + (((((x0 - (((x0.toUInt32 >>> ((1 : Int32).toUInt32 &&& Int32.toUInt32 31)).toInt32) &&& (1431655765 : Int32))) &&& (858993459 : Int32)) + ((((x0 - (((x0.toUInt32 >>> ((1 : Int32).toUInt32 &&& Int32.toUInt32 31)).toInt32) &&& (1431655765 : Int32))).toUInt32 >>> ((2 : Int32).toUInt32 &&& Int32.toUInt32 31)).toInt32) &&& (858993459 : Int32))).toUInt32 >>> ((4 : Int32).toUInt32 &&& Int32.toUInt32 31)).toInt32)) &&& (252645135 : Int32)) + (((((((x0 - (((x0.toUInt32 >>> ((1 : Int32).toUInt32 &&& Int32.toUInt32 31)).toInt32) &&& (1431655765 : Int32))) &&& (858993459 : Int32)) + ((((x0 - (((x0.toUInt32 >>> ((1 : Int32).toUInt32 &&& Int32.toUInt32 31)).toInt32) &&& (1431655765 : Int32))).toUInt32 >>> ((2 : Int32).toUInt32 &&& Int32.toUInt32 31)).toInt32) &&& (858993459 : Int32))) + (((((x0 - (((x0.toUInt32 >>> ((1 : Int32).toUInt32 &&& Int32.toUInt32 31)).toInt32) &&& (1431655765 : Int32))) &&& (858993459 : Int32)) + ((((x0 - (((x0.toUInt32 >>> ((1 : Int32).toUInt32 &&& Int32.toUInt32 31)).toInt32) &&& (1431655765 : Int32))).toUInt32 >>> ((2 : Int32).toUInt32 &&& Int32.toUInt32 31)).toInt32) &&& (858993459 : Int32))).toUInt32 >>> ((4 : Int32).toUInt32 &&& Int32.toUInt32 31)).toInt32)) &&& (252645135 : Int32)).toUInt32 >>> ((8 : Int32).toUInt32 &&& Int32.toUInt32 31)).toInt32)).toUInt32 >>> ((16 : Int32).toUInt32 &&& Int32.toUInt32 31)).toInt32))] rfl (fun _ => rfl) rfl ?_
  refine dg_s (pc' := 51) [.int (63 : Int32), .int (((((((x0 - (((x0.toUInt32 >>> ((1 : Int32).toUInt32 &&& Int32.toUInt32 31)).toInt32) &&& (1431655765 : Int32))) &&& (858993459 : Int32)) + ((((x0 - (((x0.toUInt32 >>> ((1 : Int32).toUInt32 &&& Int32.toUInt32 31)).toInt32) &&& (1431655765 : Int32))).toUInt32 >>> ((2 : Int32).toUInt32 &&& Int32.toUInt32 31)).toInt32) &&& (858993459 : Int32))) + (((((x0 - (((x0.toUInt32 >>> ((1 : Int32).toUInt32 &&& Int32.toUInt32 31)).toInt32) &&& (1431655765 : Int32))) &&& (858993459 : Int32)) + ((((x0 - (((x0.toUInt32 >>> ((1 : Int32).toUInt32 &&& Int32.toUInt32 31)).toInt32) &&& (1431655765 : Int32))).toUInt32 >>> ((2 : Int32).toUInt32 &&& Int32.toUInt32 31)).toInt32) &&& (858993459 : Int32))).toUInt32 >>> ((4 : Int32).toUInt32 &&& Int32.toUInt32 31)).toInt32)) &&& (252645135 : Int32)) + (((((((x0 - (((x0.toUInt32 >>> ((1 : Int32).toUInt32 &&& Int32.toUInt32 31)).toInt32) &&& (1431655765 : Int32))) &&& (858993459 : Int32)) + ((((x0 - (((x0.toUInt32 >>> ((1 : Int32).toUInt32 &&& Int32.toUInt32 31)).toInt32) &&& (1431655765 : Int32))).toUInt32 >>> ((2 : Int32).toUInt32 &&& Int32.toUInt32 31)).toInt32) &&& (858993459 : Int32))) + (((((x0 - (((x0.toUInt32 >>> ((1 : Int32).toUInt32 &&& Int32.toUInt32 31)).toInt32) &&& (1431655765 : Int32))) &&& (858993459 : Int32)) + ((((x0 - (((x0.toUInt32 >>> ((1 : Int32).toUInt32 &&& Int32.toUInt32 31)).toInt32) &&& (1431655765 : Int32))).toUInt32 >>> ((2 : Int32).toUInt32 &&& Int32.toUInt32 31)).toInt32) &&& (858993459 : Int32))).toUInt32 >>> ((4 : Int32).toUInt32 &&& Int32.toUInt32 31)).toInt32)) &&& (252645135 : Int32)).toUInt32 >>> ((8 : Int32).toUInt32 &&& Int32.toUInt32 31)).toInt32)) + ((((((((x0 - (((x0.toUInt32 >>> ((1 : Int32).toUInt32 &&& Int32.toUInt32 31)).toInt32) &&& (1431655765 : Int32))) &&& (858993459 : Int32)) + ((((x0 - (((x0.toUInt32 >>> ((1 : Int32).toUInt32 &&& Int32.toUInt32 31)).toInt32) &&& (1431655765 : Int32))).toUInt32 >>> ((2 : Int32).toUInt32 &&& Int32.toUInt32 31)).toInt32) &&& (858993459 : Int32))) + (((((x0 - (((x0.toUInt32 >>> ((1 : Int32).toUInt32 &&& Int32.toUInt32 31)).toInt32) &&& (1431655765 : Int32))) &&& (858993459 : Int32)) + ((((x0 - (((x0.toUInt32 >>> ((1 : Int32).toUInt32 &&& Int32.toUInt32 31)).toInt32) &&& (1431655765 : Int32))).toUInt32 >>> ((2 : Int32).toUInt32 &&& Int32.toUInt32 31)).toInt32) &&& (858993459 : Int32))).toUInt32 >>> ((4 : Int32).toUInt32 &&& Int32.toUInt32 31)).toInt32)) &&& (252645135 : Int32)) + (((((((x0 - (((x0.toUInt32 >>> ((1 : Int32).toUInt32 &&& Int32.toUInt32 31)).toInt32) &&& (1431655765 : Int32))) &&& (858993459 : Int32)) + ((((x0 - (((x0.toUInt32 >>> ((1 : Int32).toUInt32 &&& Int32.toUInt32 31)).toInt32) &&& (1431655765 : Int32))).toUInt32 >>> ((2 : Int32).toUInt32 &&& Int32.toUInt32 31)).toInt32) &&& (858993459 : Int32))) + (((((x0 - (((x0.toUInt32 >>> ((1 : Int32).toUInt32 &&& Int32.toUInt32 31)).toInt32) &&& (1431655765 : Int32))) &&& (858993459 : Int32)) + ((((x0 - (((x0.toUInt32 >>> ((1 : Int32).toUInt32 &&& Int32.toUInt32 31)).toInt32) &&& (1431655765 : Int32))).toUInt32 >>> ((2 : Int32).toUInt32 &&& Int32.toUInt32 31)).toInt32) &&& (858993459 : Int32))).toUInt32 >>> ((4 : Int32).toUInt32 &&& Int32.toUInt32 31)).toInt32)) &&& (252645135 : Int32)).toUInt32 >>> ((8 : Int32).toUInt32 &&& Int32.toUInt32 31)).toInt32)).toUInt32 >>> ((16 : Int32).toUInt32 &&& Int32.toUInt32 31)).toInt32))] rfl (fun _ => rfl) rfl ?_
  refine dg_s (pc' := 52) [.int ((((((((x0 - (((x0.toUInt32 >>> ((1 : Int32).toUInt32 &&& Int32.toUInt32 31)).toInt32) &&& (1431655765 : Int32))) &&& (858993459 : Int32)) + ((((x0 - (((x0.toUInt32 >>> ((1 : Int32).toUInt32 &&& Int32.toUInt32 31)).toInt32) &&& (1431655765 : Int32))).toUInt32 >>> ((2 : Int32).toUInt32 &&& Int32.toUInt32 31)).toInt32) &&& (858993459 : Int32))) + (((((x0 - (((x0.toUInt32 >>> ((1 : Int32).toUInt32 &&& Int32.toUInt32 31)).toInt32) &&& (1431655765 : Int32))) &&& (858993459 : Int32)) + ((((x0 - (((x0.toUInt32 >>> ((1 : Int32).toUInt32 &&& Int32.toUInt32 31)).toInt32) &&& (1431655765 : Int32))).toUInt32 >>> ((2 : Int32).toUInt32 &&& Int32.toUInt32 31)).toInt32) &&& (858993459 : Int32))).toUInt32 >>> ((4 : Int32).toUInt32 &&& Int32.toUInt32 31)).toInt32)) &&& (252645135 : Int32)) + (((((((x0 - (((x0.toUInt32 >>> ((1 : Int32).toUInt32 &&& Int32.toUInt32 31)).toInt32) &&& (1431655765 : Int32))) &&& (858993459 : Int32)) + ((((x0 - (((x0.toUInt32 >>> ((1 : Int32).toUInt32 &&& Int32.toUInt32 31)).toInt32) &&& (1431655765 : Int32))).toUInt32 >>> ((2 : Int32).toUInt32 &&& Int32.toUInt32 31)).toInt32) &&& (858993459 : Int32))) + (((((x0 - (((x0.toUInt32 >>> ((1 : Int32).toUInt32 &&& Int32.toUInt32 31)).toInt32) &&& (1431655765 : Int32))) &&& (858993459 : Int32)) + ((((x0 - (((x0.toUInt32 >>> ((1 : Int32).toUInt32 &&& Int32.toUInt32 31)).toInt32) &&& (1431655765 : Int32))).toUInt32 >>> ((2 : Int32).toUInt32 &&& Int32.toUInt32 31)).toInt32) &&& (858993459 : Int32))).toUInt32 >>> ((4 : Int32).toUInt32 &&& Int32.toUInt32 31)).toInt32)) &&& (252645135 : Int32)).toUInt32 >>> ((8 : Int32).toUInt32 &&& Int32.toUInt32 31)).toInt32)) + ((((((((x0 - (((x0.toUInt32 >>> ((1 : Int32).toUInt32 &&& Int32.toUInt32 31)).toInt32) &&& (1431655765 : Int32))) &&& (858993459 : Int32)) + ((((x0 - (((x0.toUInt32 >>> ((1 : Int32).toUInt32 &&& Int32.toUInt32 31)).toInt32) &&& (1431655765 : Int32))).toUInt32 >>> ((2 : Int32).toUInt32 &&& Int32.toUInt32 31)).toInt32) &&& (858993459 : Int32))) + (((((x0 - (((x0.toUInt32 >>> ((1 : Int32).toUInt32 &&& Int32.toUInt32 31)).toInt32) &&& (1431655765 : Int32))) &&& (858993459 : Int32)) + ((((x0 - (((x0.toUInt32 >>> ((1 : Int32).toUInt32 &&& Int32.toUInt32 31)).toInt32) &&& (1431655765 : Int32))).toUInt32 >>> ((2 : Int32).toUInt32 &&& Int32.toUInt32 31)).toInt32) &&& (858993459 : Int32))).toUInt32 >>> ((4 : Int32).toUInt32 &&& Int32.toUInt32 31)).toInt32)) &&& (252645135 : Int32)) + (((((((x0 - (((x0.toUInt32 >>> ((1 : Int32).toUInt32 &&& Int32.toUInt32 31)).toInt32) &&& (1431655765 : Int32))) &&& (858993459 : Int32)) + ((((x0 - (((x0.toUInt32 >>> ((1 : Int32).toUInt32 &&& Int32.toUInt32 31)).toInt32) &&& (1431655765 : Int32))).toUInt32 >>> ((2 : Int32).toUInt32 &&& Int32.toUInt32 31)).toInt32) &&& (858993459 : Int32))) + (((((x0 - (((x0.toUInt32 >>> ((1 : Int32).toUInt32 &&& Int32.toUInt32 31)).toInt32) &&& (1431655765 : Int32))) &&& (858993459 : Int32)) + ((((x0 - (((x0.toUInt32 >>> ((1 : Int32).toUInt32 &&& Int32.toUInt32 31)).toInt32) &&& (1431655765 : Int32))).toUInt32 >>> ((2 : Int32).toUInt32 &&& Int32.toUInt32 31)).toInt32) &&& (858993459 : Int32))).toUInt32 >>> ((4 : Int32).toUInt32 &&& Int32.toUInt32 31)).toInt32)) &&& (252645135 : Int32)).toUInt32 >>> ((8 : Int32).toUInt32 &&& Int32.toUInt32 31)).toInt32)).toUInt32 >>> ((16 : Int32).toUInt32 &&& Int32.toUInt32 31)).toInt32)) &&& (63 : Int32))] rfl (fun _ => rfl) rfl ?_
  exact dw_r (some (.inl (some (.int ((((((((x0 - (((x0.toUInt32 >>> ((1 : Int32).toUInt32 &&& Int32.toUInt32 31)).toInt32) &&& (1431655765 : Int32))) &&& (858993459 : Int32)) + ((((x0 - (((x0.toUInt32 >>> ((1 : Int32).toUInt32 &&& Int32.toUInt32 31)).toInt32) &&& (1431655765 : Int32))).toUInt32 >>> ((2 : Int32).toUInt32 &&& Int32.toUInt32 31)).toInt32) &&& (858993459 : Int32))) + (((((x0 - (((x0.toUInt32 >>> ((1 : Int32).toUInt32 &&& Int32.toUInt32 31)).toInt32) &&& (1431655765 : Int32))) &&& (858993459 : Int32)) + ((((x0 - (((x0.toUInt32 >>> ((1 : Int32).toUInt32 &&& Int32.toUInt32 31)).toInt32) &&& (1431655765 : Int32))).toUInt32 >>> ((2 : Int32).toUInt32 &&& Int32.toUInt32 31)).toInt32) &&& (858993459 : Int32))).toUInt32 >>> ((4 : Int32).toUInt32 &&& Int32.toUInt32 31)).toInt32)) &&& (252645135 : Int32)) + (((((((x0 - (((x0.toUInt32 >>> ((1 : Int32).toUInt32 &&& Int32.toUInt32 31)).toInt32) &&& (1431655765 : Int32))) &&& (858993459 : Int32)) + ((((x0 - (((x0.toUInt32 >>> ((1 : Int32).toUInt32 &&& Int32.toUInt32 31)).toInt32) &&& (1431655765 : Int32))).toUInt32 >>> ((2 : Int32).toUInt32 &&& Int32.toUInt32 31)).toInt32) &&& (858993459 : Int32))) + (((((x0 - (((x0.toUInt32 >>> ((1 : Int32).toUInt32 &&& Int32.toUInt32 31)).toInt32) &&& (1431655765 : Int32))) &&& (858993459 : Int32)) + ((((x0 - (((x0.toUInt32 >>> ((1 : Int32).toUInt32 &&& Int32.toUInt32 31)).toInt32) &&& (1431655765 : Int32))).toUInt32 >>> ((2 : Int32).toUInt32 &&& Int32.toUInt32 31)).toInt32) &&& (858993459 : Int32))).toUInt32 >>> ((4 : Int32).toUInt32 &&& Int32.toUInt32 31)).toInt32)) &&& (252645135 : Int32)).toUInt32 >>> ((8 : Int32).toUInt32 &&& Int32.toUInt32 31)).toInt32)) + ((((((((x0 - (((x0.toUInt32 >>> ((1 : Int32).toUInt32 &&& Int32.toUInt32 31)).toInt32) &&& (1431655765 : Int32))) &&& (858993459 : Int32)) + ((((x0 - (((x0.toUInt32 >>> ((1 : Int32).toUInt32 &&& Int32.toUInt32 31)).toInt32) &&& (1431655765 : Int32))).toUInt32 >>> ((2 : Int32).toUInt32 &&& Int32.toUInt32 31)).toInt32) &&& (858993459 : Int32))) + (((((x0 - (((x0.toUInt32 >>> ((1 : Int32).toUInt32 &&& Int32.toUInt32 31)).toInt32) &&& (1431655765 : Int32))) &&& (858993459 : Int32)) + ((((x0 - (((x0.toUInt32 >>> ((1 : Int32).toUInt32 &&& Int32.toUInt32 31)).toInt32) &&& (1431655765 : Int32))).toUInt32 >>> ((2 : Int32).toUInt32 &&& Int32.toUInt32 31)).toInt32) &&& (858993459 : Int32))).toUInt32 >>> ((4 : Int32).toUInt32 &&& Int32.toUInt32 31)).toInt32)) &&& (252645135 : Int32)) + (((((((x0 - (((x0.toUInt32 >>> ((1 : Int32).toUInt32 &&& Int32.toUInt32 31)).toInt32) &&& (1431655765 : Int32))) &&& (858993459 : Int32)) + ((((x0 - (((x0.toUInt32 >>> ((1 : Int32).toUInt32 &&& Int32.toUInt32 31)).toInt32) &&& (1431655765 : Int32))).toUInt32 >>> ((2 : Int32).toUInt32 &&& Int32.toUInt32 31)).toInt32) &&& (858993459 : Int32))) + (((((x0 - (((x0.toUInt32 >>> ((1 : Int32).toUInt32 &&& Int32.toUInt32 31)).toInt32) &&& (1431655765 : Int32))) &&& (858993459 : Int32)) + ((((x0 - (((x0.toUInt32 >>> ((1 : Int32).toUInt32 &&& Int32.toUInt32 31)).toInt32) &&& (1431655765 : Int32))).toUInt32 >>> ((2 : Int32).toUInt32 &&& Int32.toUInt32 31)).toInt32) &&& (858993459 : Int32))).toUInt32 >>> ((4 : Int32).toUInt32 &&& Int32.toUInt32 31)).toInt32)) &&& (252645135 : Int32)).toUInt32 >>> ((8 : Int32).toUInt32 &&& Int32.toUInt32 31)).toInt32)).toUInt32 >>> ((16 : Int32).toUInt32 &&& Int32.toUInt32 31)).toInt32)) &&& (63 : Int32))), m))) rfl (fun _ => rfl) (kR _)
def H_J6_bitCount_0f7a4 : dc_H := fun As m k => match As with
  | [.int x0] => k (some (.int (d_J6_bitCount_0f7a4 x0 m))) m
  | _ => dc_kz
theorem H_J6_bitCount_0f7a4_ok {u : Nat} : dc_cok u 229 H_J6_bitCount_0f7a4 := fun M' hG N As m k P hz hP => by
  obtain rfl : ab_M_J6_bitCount_0f7a4 = M' := Option.some.inj hG
  unfold H_J6_bitCount_0f7a4 at hP
  split at hP
  · rename_i x0
    exact dc_pv.imp (k_J6_bitCount_0f7a4 (Φ := fun (t : Int32) r m' => P (k (some (.int t)) m) → P (k r m')) x0 m (fun _  h => h) rfl) (fun r m' h => h hP)
  · exact absurd hP hz
def C_X7_leadsHome : List (Nat × dc_H) := []
theorem CO_X7_leadsHome {u : Nat} : dc_CO u C_X7_leadsHome := dc_CO_nil
def S_X7_leadsHome : List (Nat × List Nat) := [(2, [0, 1, 2])]
noncomputable def d_X7_leadsHome_l2b (x0 : Nat) (x1 : Int32) (x2 : Int32) (m : dc_M) : Option (Int32 ⊕ Int32) :=
  (if 16 ≤ (Int32.toInt x2) then some (Sum.inr ((0 : Int32))) else (if (Int32.toInt (((m.1 (x0 + 2) (Int32.toNatClampNeg x1)) >>> (x2 &&& 31)) &&& (1 : Int32))) = 0 then some (Sum.inl (x2 + (1 : Int32))) else (if ¬ (Int32.toInt (m.1 (x0 + 7) (Int32.toNatClampNeg (m.1 (x0 + 5) (Int32.toNatClampNeg ((x1 * (16 : Int32)) + x2)))))) = 1 then some (Sum.inl (x2 + (1 : Int32))) else some (Sum.inr ((1 : Int32))))))
noncomputable def d_X7_leadsHome_l2s (x0 : Nat) (x1 : Int32) (m : dc_M) : Int32 → Option (Int32 ⊕ Int32) := fun s => d_X7_leadsHome_l2b x0 x1 s m
noncomputable def d_X7_leadsHome_l2 (x0 : Nat) (x1 : Int32) (x2 : Int32) (m : dc_M) : Option Int32 := dc_lp (d_X7_leadsHome_l2s x0 x1 m) x2
set_option maxHeartbeats 8000000 in
theorem k_X7_leadsHome_l2 {u : Nat} {Φ : (Option Int32) → Option Value → dc_M → Prop} (x0 : Nat) (x1 : Int32) (m : dc_M) (kR : ∀ (v : Int32), Φ (some (v)) (some (.int v)) m) : ∀ (N : Nat), ∀ (x2 : Int32) (lv : ab_L), ab_lk lv 0 = some (.ref x0) → ab_lk lv 1 = some (.int x1) → ab_lk lv 2 = some (.int x2) → dc_pv u N ab_M_X7_leadsHome 2 lv [] m (Φ (d_X7_leadsHome_l2 x0 x1 x2 m)) := by
  intro N
  induction N with
  | zero => intros; exact dc_pv_zero
  | succ N ih =>
    intro x2 lv f0 f1 f2
    refine dc_ok (C := C_X7_leadsHome) (S := S_X7_leadsHome) CO_X7_leadsHome 400 2 [(0, .ref x0), (1, .int x1), (2, .int x2)] lv [] m (dc_sub_cons f0 (dc_sub_cons f1 (dc_sub_cons f2 (dc_sub_nil)))) ?_
    unfold d_X7_leadsHome_l2
    rw [dc_lp_eq]
    show (fun t x => dc_lf u N ab_M_X7_leadsHome (Φ (Option.bind t (dc_bk (d_X7_leadsHome_l2s x0 x1 m)))) x) (d_X7_leadsHome_l2b x0 x1 x2 m) _
    dsimp only
    unfold d_X7_leadsHome_l2b
    refine dg_s (pc' := 3) [.int x2] rfl (fun _ => rfl) rfl ?_
    refine dg_s (pc' := 5) [.int (16 : Int32), .int x2] rfl (fun _ => rfl) rfl ?_
    refine dw_if (fun t => Φ (Option.bind t (dc_bk (d_X7_leadsHome_l2s x0 x1 m)))) (16 ≤ (Int32.toInt x2)) [] 49 8 rfl (fun _ => rfl) (fun c0 => ?_) (fun c0 => ?_)
    · refine dw_g rfl ?_
      refine dg_s (pc' := 50) [.int (0 : Int32)] rfl (fun _ => rfl) rfl ?_
      exact dw_r (some (.inl (some (.int (0 : Int32)), m))) rfl (fun _ => rfl) (kR _)
    · refine dw_g rfl ?_
      refine dg_s (pc' := 9) [.ref x0] rfl (fun _ => rfl) rfl ?_
      refine dg_s (pc' := 12) [.ref (x0 + 2)] rfl (fun _ => rfl) rfl ?_
      refine dg_s (pc' := 13) [.int x1, .ref (x0 + 2)] rfl (fun _ => rfl) rfl ?_
      refine dg_s (pc' := 14) [.int (m.1 (x0 + 2) (Int32.toNatClampNeg x1))] rfl (fun _ => rfl) rfl ?_
      refine dg_s (pc' := 15) [.int x2, .int (m.1 (x0 + 2) (Int32.toNatClampNeg x1))] rfl (fun _ => rfl) rfl ?_
      refine dg_s (pc' := 16) [.int ((m.1 (x0 + 2) (Int32.toNatClampNeg x1)) >>> (x2 &&& 31))] rfl (fun _ => rfl) rfl ?_
      refine dg_s (pc' := 17) [.int (1 : Int32), .int ((m.1 (x0 + 2) (Int32.toNatClampNeg x1)) >>> (x2 &&& 31))] rfl (fun _ => rfl) rfl ?_
      refine dg_s (pc' := 18) [.int (((m.1 (x0 + 2) (Int32.toNatClampNeg x1)) >>> (x2 &&& 31)) &&& (1 : Int32))] rfl (fun _ => rfl) rfl ?_
      refine dw_if (fun t => Φ (Option.bind t (dc_bk (d_X7_leadsHome_l2s x0 x1 m)))) ((Int32.toInt (((m.1 (x0 + 2) (Int32.toNatClampNeg x1)) >>> (x2 &&& 31)) &&& (1 : Int32))) = 0) [] 43 21 rfl (fun _ => rfl) (fun c1 => ?_) (fun c1 => ?_)
      · refine dw_g rfl ?_
        refine dg_L (pc' := 46) [(2, .int (x2 + (1 : Int32))), (0, .ref x0), (1, .int x1)] [] rfl (fun _ => rfl) rfl ?_
        refine dw_s (pc' := 2) [] rfl (fun _ => rfl) ?_
        exact dw_j rfl (fun lv1 hv => ih (x2 + (1 : Int32)) lv1 (hv.1 _ rfl) (hv.2.1 _ rfl) (hv.2.2.1 _ rfl))
      · refine dw_g rfl ?_
        refine dg_s (pc' := 22) [.ref x0] rfl (fun _ => rfl) rfl ?_
        refine dg_s (pc' := 25) [.ref (x0 + 7)] rfl (fun _ => rfl) rfl ?_
        refine dg_s (pc' := 26) [.ref x0, .ref (x0 + 7)] rfl (fun _ => rfl) rfl ?_
        refine dg_s (pc' := 29) [.ref (x0 + 5), .ref (x0 + 7)] rfl (fun _ => rfl) rfl ?_
        refine dg_s (pc' := 30) [.int x1, .ref (x0 + 5), .ref (x0 + 7)] rfl (fun _ => rfl) rfl ?_
        refine dg_s (pc' := 32) [.int (16 : Int32), .int x1, .ref (x0 + 5), .ref (x0 + 7)] rfl (fun _ => rfl) rfl ?_
        refine dg_s (pc' := 33) [.int (x1 * (16 : Int32)), .ref (x0 + 5), .ref (x0 + 7)] rfl (fun _ => rfl) rfl ?_
        refine dg_s (pc' := 34) [.int x2, .int (x1 * (16 : Int32)), .ref (x0 + 5), .ref (x0 + 7)] rfl (fun _ => rfl) rfl ?_
        refine dg_s (pc' := 35) [.int ((x1 * (16 : Int32)) + x2), .ref (x0 + 5), .ref (x0 + 7)] rfl (fun _ => rfl) rfl ?_
        refine dg_s (pc' := 36) [.int (m.1 (x0 + 5) (Int32.toNatClampNeg ((x1 * (16 : Int32)) + x2))), .ref (x0 + 7)] rfl (fun _ => rfl) rfl ?_
        refine dg_s (pc' := 37) [.int (m.1 (x0 + 7) (Int32.toNatClampNeg (m.1 (x0 + 5) (Int32.toNatClampNeg ((x1 * (16 : Int32)) + x2)))))] rfl (fun _ => rfl) rfl ?_
        refine dg_s (pc' := 38) [.int (1 : Int32), .int (m.1 (x0 + 7) (Int32.toNatClampNeg (m.1 (x0 + 5) (Int32.toNatClampNeg ((x1 * (16 : Int32)) + x2)))))] rfl (fun _ => rfl) rfl ?_
        refine dw_if (fun t => Φ (Option.bind t (dc_bk (d_X7_leadsHome_l2s x0 x1 m)))) (¬ (Int32.toInt (m.1 (x0 + 7) (Int32.toNatClampNeg (m.1 (x0 + 5) (Int32.toNatClampNeg ((x1 * (16 : Int32)) + x2)))))) = 1) [] 43 41 rfl (fun _ => rfl) (fun c2 => ?_) (fun c2 => ?_)
        · refine dw_g rfl ?_
          refine dg_L (pc' := 46) [(2, .int (x2 + (1 : Int32))), (0, .ref x0), (1, .int x1)] [] rfl (fun _ => rfl) rfl ?_
          refine dw_s (pc' := 2) [] rfl (fun _ => rfl) ?_
          exact dw_j rfl (fun lv1 hv => ih (x2 + (1 : Int32)) lv1 (hv.1 _ rfl) (hv.2.1 _ rfl) (hv.2.2.1 _ rfl))
        · refine dw_g rfl ?_
          refine dg_s (pc' := 42) [.int (1 : Int32)] rfl (fun _ => rfl) rfl ?_
          exact dw_r (some (.inl (some (.int (1 : Int32)), m))) rfl (fun _ => rfl) (kR _)
noncomputable def d_X7_leadsHome (x0 : Nat) (x1 : Int32) (m : dc_M) : Option Int32 :=
  (d_X7_leadsHome_l2 x0 x1 (0 : Int32) m)
set_option maxHeartbeats 8000000 in
theorem k_X7_leadsHome {u : Nat} {N : Nat} {Φ : (Option Int32) → Option Value → dc_M → Prop} (x0 : Nat) (x1 : Int32) (m : dc_M) (kR : ∀ (v : Int32), Φ (some (v)) (some (.int v)) m)  {lv : ab_L} (f0 : ab_lk lv 0 = some (.ref x0)) (f1 : ab_lk lv 1 = some (.int x1)) : dc_pv u N ab_M_X7_leadsHome 0 lv [] m (Φ (d_X7_leadsHome x0 x1 m)) := by
  refine dc_pv.mono (dc_ok (C := C_X7_leadsHome) (S := S_X7_leadsHome) CO_X7_leadsHome 400 0 [(0, .ref x0), (1, .int x1)] lv [] m (dc_sub_cons f0 (dc_sub_cons f1 (dc_sub_nil))) ?_) (Nat.le_succ N)
  unfold d_X7_leadsHome
  refine dg_s (pc' := 1) [.int (0 : Int32)] rfl (fun _ => rfl) rfl ?_
  refine dw_L (pc' := 2) [(2, .int (0 : Int32)), (0, .ref x0), (1, .int x1)] [] rfl (fun _ => rfl) ?_
  exact dw_j rfl (fun lv1 hv => k_X7_leadsHome_l2 (Φ := (fun t => Φ t)) x0 x1 m (fun _a  => kR _a) N  (0 : Int32) lv1 (hv.1 _ rfl) (hv.2.1 _ rfl) (hv.2.2.1 _ rfl))
noncomputable def H_X7_leadsHome : dc_H := fun As m k => match As with
  | [.ref x0, .int x1] => (d_X7_leadsHome x0 x1 m).bind (fun q => k (some (.int q)) m)
  | _ => dc_kz
theorem H_X7_leadsHome_ok {u : Nat} : dc_cok u 88 H_X7_leadsHome := fun M' hG N As m k P hz hP => by
  obtain rfl : ab_M_X7_leadsHome = M' := Option.some.inj hG
  unfold H_X7_leadsHome at hP
  split at hP
  · rename_i x0 x1
    exact dc_pv.imp (k_X7_leadsHome (Φ := fun (t : Option Int32) r m' => P (t.bind (fun q => k (some (.int q)) m)) → P (k r m')) x0 x1 m (fun _  h => h) rfl rfl) (fun r m' h => h hP)
  · exact absurd hP hz
noncomputable def C_X7_findHome : List (Nat × dc_H) := [(238, H_J7_fill_53178), (88, H_X7_leadsHome)]
theorem CO_X7_findHome {u : Nat} : dc_CO u C_X7_findHome := dc_CO_cons H_J7_fill_53178_ok (dc_CO_cons H_X7_leadsHome_ok (dc_CO_nil))
def S_X7_findHome : List (Nat × List Nat) := [(21, [0, 1, 2, 3]), (43, [0, 1, 2, 3, 4])]
noncomputable def d_X7_findHome_l43b (x0 : Nat) (x2 : Int32) (x3 : Int32) (x1 : Int32) (x4 : Int32) (m : dc_M) : Option ((Int32 × Int32 × dc_M) ⊕ ((Int32 × Int32 × Int32 × dc_M) ⊕ (Int32 × dc_M))) :=
  (if (Int32.toInt x4) ≤ 0 then some (Sum.inr (Sum.inl (x1, x2, (x3 + (1 : Int32)), m))) else (if ¬ (Int32.toInt (m.1 (x0 + 7) (Int32.toNatClampNeg x4))) = 0 then some (Sum.inl (x1, (x4 + (-1)), m)) else ((d_X7_leadsHome x0 x4 m).bind (fun q1 => (if (Int32.toInt q1) = 0 then some (Sum.inl (x1, (x4 + (-1)), m)) else some (Sum.inl ((x1 + (1 : Int32)), (x4 + (-1)), (dc_wi m (x0 + 7) (Int32.toNatClampNeg x4) (1 : Int32)))))))))
noncomputable def d_X7_findHome_l43s (x0 : Nat) (x2 : Int32) (x3 : Int32) : (Int32 × Int32 × dc_M) → Option ((Int32 × Int32 × dc_M) ⊕ ((Int32 × Int32 × Int32 × dc_M) ⊕ (Int32 × dc_M))) := fun s => d_X7_findHome_l43b x0 x2 x3 s.1 s.2.1 s.2.2
noncomputable def d_X7_findHome_l43 (x0 : Nat) (x2 : Int32) (x3 : Int32) (x1 : Int32) (x4 : Int32) (m : dc_M) : Option ((Int32 × Int32 × Int32 × dc_M) ⊕ (Int32 × dc_M)) := dc_lp (d_X7_findHome_l43s x0 x2 x3) (x1, x4, m)
set_option maxHeartbeats 8000000 in
theorem k_X7_findHome_l43 {u : Nat} {Φ : (Option ((Int32 × Int32 × Int32 × dc_M) ⊕ (Int32 × dc_M))) → Option Value → dc_M → Prop} (x0 : Nat) (x2 : Int32) (x3 : Int32) (kR : ∀ (v : Int32) (m : dc_M), Φ (some (Sum.inr ((v, m)))) (some (.int v)) m) : ∀ (N : Nat), (∀ (x1 : Int32) (x2 : Int32) (x3 : Int32) (m : dc_M) (lv : ab_L), ab_lk lv 0 = some (.ref x0) → ab_lk lv 1 = some (.int x1) → ab_lk lv 2 = some (.int x2) → ab_lk lv 3 = some (.int x3) →  dc_pv u N ab_M_X7_findHome 21 lv [] m (Φ (some (Sum.inl (x1, x2, x3, m))))) → ∀ (x1 : Int32) (x4 : Int32) (m : dc_M) (lv : ab_L), ab_lk lv 0 = some (.ref x0) → ab_lk lv 1 = some (.int x1) → ab_lk lv 2 = some (.int x2) → ab_lk lv 3 = some (.int x3) → ab_lk lv 4 = some (.int x4) → dc_pv u N ab_M_X7_findHome 43 lv [] m (Φ (d_X7_findHome_l43 x0 x2 x3 x1 x4 m)) := by
  intro N
  induction N with
  | zero => intros; exact dc_pv_zero
  | succ N ih =>
    intro k21 x1 x4 m lv f0 f1 f2 f3 f4
    have k21 := fun a0 a1 a2 a3 a4 a5 a6 a7 a8 => (k21 a0 a1 a2 a3 a4 a5 a6 a7 a8).mono (Nat.le_succ N)
    have ih := ih k21
    refine dc_ok (C := C_X7_findHome) (S := S_X7_findHome) CO_X7_findHome 400 43 [(0, .ref x0), (1, .int x1), (2, .int x2), (3, .int x3), (4, .int x4)] lv [] m (dc_sub_cons f0 (dc_sub_cons f1 (dc_sub_cons f2 (dc_sub_cons f3 (dc_sub_cons f4 (dc_sub_nil)))))) ?_
    unfold d_X7_findHome_l43
    rw [dc_lp_eq]
    show (fun t x => dc_lf u N ab_M_X7_findHome (Φ (Option.bind t (dc_bk (d_X7_findHome_l43s x0 x2 x3)))) x) (d_X7_findHome_l43b x0 x2 x3 x1 x4 m) _
    dsimp only
    unfold d_X7_findHome_l43b
    refine dg_s (pc' := 45) [.int x4] rfl (fun _ => rfl) rfl ?_
    refine dw_if (fun t => Φ (Option.bind t (dc_bk (d_X7_findHome_l43s x0 x2 x3)))) ((Int32.toInt x4) ≤ 0) [] 84 48 rfl (fun _ => rfl) (fun c0 => ?_) (fun c0 => ?_)
    · refine dw_g rfl ?_
      refine dg_L (pc' := 87) [(3, .int (x3 + (1 : Int32))), (0, .ref x0), (1, .int x1), (2, .int x2), (4, .int x4)] [] rfl (fun _ => rfl) rfl ?_
      refine dw_s (pc' := 21) [] rfl (fun _ => rfl) ?_
      exact dw_j rfl (fun lv1 hv => k21 x1 x2 (x3 + (1 : Int32)) m lv1 (hv.1 _ rfl) (hv.2.1 _ rfl) (hv.2.2.1 _ rfl) (hv.2.2.2.1 _ rfl))
    · refine dw_g rfl ?_
      refine dg_s (pc' := 49) [.ref x0] rfl (fun _ => rfl) rfl ?_
      refine dg_s (pc' := 52) [.ref (x0 + 7)] rfl (fun _ => rfl) rfl ?_
      refine dg_s (pc' := 54) [.int x4, .ref (x0 + 7)] rfl (fun _ => rfl) rfl ?_
      refine dg_s (pc' := 55) [.int (m.1 (x0 + 7) (Int32.toNatClampNeg x4))] rfl (fun _ => rfl) rfl ?_
      refine dw_if (fun t => Φ (Option.bind t (dc_bk (d_X7_findHome_l43s x0 x2 x3)))) (¬ (Int32.toInt (m.1 (x0 + 7) (Int32.toNatClampNeg x4))) = 0) [] 78 58 rfl (fun _ => rfl) (fun c1 => ?_) (fun c1 => ?_)
      · refine dw_g rfl ?_
        refine dg_L (pc' := 81) [(4, .int (x4 + (-1))), (0, .ref x0), (1, .int x1), (2, .int x2), (3, .int x3)] [] rfl (fun _ => rfl) rfl ?_
        refine dw_s (pc' := 43) [] rfl (fun _ => rfl) ?_
        exact dw_j rfl (fun lv1 hv => ih x1 (x4 + (-1)) m lv1 (hv.1 _ rfl) (hv.2.1 _ rfl) (hv.2.2.1 _ rfl) (hv.2.2.2.1 _ rfl) (hv.2.2.2.2.1 _ rfl))
      · refine dw_g rfl ?_
        refine dg_s (pc' := 59) [.ref x0] rfl (fun _ => rfl) rfl ?_
        refine dg_s (pc' := 61) [.int x4, .ref x0] rfl (fun _ => rfl) rfl ?_
        refine dw_b (fun t => Φ (Option.bind t (dc_bk (d_X7_findHome_l43s x0 x2 x3)))) (pc' := 64) (fun q1 => [.int q1]) (fun q1 => m) rfl (fun _ => rfl) (fun q1 => ?_)
        refine dw_g rfl ?_
        refine dw_if (fun t => Φ (Option.bind t (dc_bk (d_X7_findHome_l43s x0 x2 x3)))) ((Int32.toInt q1) = 0) [] 78 67 rfl (fun _ => rfl) (fun c2 => ?_) (fun c2 => ?_)
        · refine dw_g rfl ?_
          refine dg_L (pc' := 81) [(4, .int (x4 + (-1))), (0, .ref x0), (1, .int x1), (2, .int x2), (3, .int x3)] [] rfl (fun _ => rfl) rfl ?_
          refine dw_s (pc' := 43) [] rfl (fun _ => rfl) ?_
          exact dw_j rfl (fun lv1 hv => ih x1 (x4 + (-1)) m lv1 (hv.1 _ rfl) (hv.2.1 _ rfl) (hv.2.2.1 _ rfl) (hv.2.2.2.1 _ rfl) (hv.2.2.2.2.1 _ rfl))
        · refine dw_g rfl ?_
          refine dg_s (pc' := 68) [.ref x0] rfl (fun _ => rfl) rfl ?_
          refine dg_s (pc' := 71) [.ref (x0 + 7)] rfl (fun _ => rfl) rfl ?_
          refine dg_s (pc' := 73) [.int x4, .ref (x0 + 7)] rfl (fun _ => rfl) rfl ?_
          refine dg_s (pc' := 74) [.int (1 : Int32), .int x4, .ref (x0 + 7)] rfl (fun _ => rfl) rfl ?_
          refine dg_m (pc' := 75) (dc_wi m (x0 + 7) (Int32.toNatClampNeg x4) (1 : Int32)) [] rfl (fun _ => rfl) rfl ?_
          refine dg_L (pc' := 78) [(1, .int (x1 + (1 : Int32))), (0, .ref x0), (2, .int x2), (3, .int x3), (4, .int x4)] [] rfl (fun _ => rfl) rfl ?_
          refine dg_L (pc' := 81) [(4, .int (x4 + (-1))), (1, .int (x1 + (1 : Int32))), (0, .ref x0), (2, .int x2), (3, .int x3)] [] rfl (fun _ => rfl) rfl ?_
          refine dw_s (pc' := 43) [] rfl (fun _ => rfl) ?_
          exact dw_j rfl (fun lv1 hv => ih (x1 + (1 : Int32)) (x4 + (-1)) (dc_wi m (x0 + 7) (Int32.toNatClampNeg x4) (1 : Int32)) lv1 (hv.1 _ rfl) (hv.2.1 _ rfl) (hv.2.2.1 _ rfl) (hv.2.2.2.1 _ rfl) (hv.2.2.2.2.1 _ rfl))
noncomputable def d_X7_findHome_l21b (x0 : Nat) (x1 : Int32) (x2 : Int32) (x3 : Int32) (m : dc_M) : Option ((Int32 × Int32 × Int32 × dc_M) ⊕ (Int32 × dc_M)) :=
  (if 200 ≤ (Int32.toInt x3) then some (Sum.inr ((x1, m))) else (if (Int32.toInt x1) ≤ (Int32.toInt x2) then some (Sum.inr ((x1, m))) else (d_X7_findHome_l43 x0 x1 x3 x1 ((m.1 x0 0) - (1 : Int32)) m)))
noncomputable def d_X7_findHome_l21s (x0 : Nat) : (Int32 × Int32 × Int32 × dc_M) → Option ((Int32 × Int32 × Int32 × dc_M) ⊕ (Int32 × dc_M)) := fun s => d_X7_findHome_l21b x0 s.1 s.2.1 s.2.2.1 s.2.2.2
noncomputable def d_X7_findHome_l21 (x0 : Nat) (x1 : Int32) (x2 : Int32) (x3 : Int32) (m : dc_M) : Option (Int32 × dc_M) := dc_lp (d_X7_findHome_l21s x0) (x1, x2, x3, m)
set_option maxHeartbeats 8000000 in
theorem k_X7_findHome_l21 {u : Nat} {Φ : (Option (Int32 × dc_M)) → Option Value → dc_M → Prop} (x0 : Nat) (kR : ∀ (v : Int32) (m : dc_M), Φ (some ((v, m))) (some (.int v)) m) : ∀ (N : Nat), ∀ (x1 : Int32) (x2 : Int32) (x3 : Int32) (m : dc_M) (lv : ab_L), ab_lk lv 0 = some (.ref x0) → ab_lk lv 1 = some (.int x1) → ab_lk lv 2 = some (.int x2) → ab_lk lv 3 = some (.int x3) → dc_pv u N ab_M_X7_findHome 21 lv [] m (Φ (d_X7_findHome_l21 x0 x1 x2 x3 m)) := by
  intro N
  induction N with
  | zero => intros; exact dc_pv_zero
  | succ N ih =>
    intro x1 x2 x3 m lv f0 f1 f2 f3
    refine dc_ok (C := C_X7_findHome) (S := S_X7_findHome) CO_X7_findHome 400 21 [(0, .ref x0), (1, .int x1), (2, .int x2), (3, .int x3)] lv [] m (dc_sub_cons f0 (dc_sub_cons f1 (dc_sub_cons f2 (dc_sub_cons f3 (dc_sub_nil))))) ?_
    unfold d_X7_findHome_l21
    rw [dc_lp_eq]
    show (fun t x => dc_lf u N ab_M_X7_findHome (Φ (Option.bind t (dc_bk (d_X7_findHome_l21s x0)))) x) (d_X7_findHome_l21b x0 x1 x2 x3 m) _
    dsimp only
    unfold d_X7_findHome_l21b
    refine dg_s (pc' := 22) [.int x3] rfl (fun _ => rfl) rfl ?_
    refine dg_s (pc' := 25) [.int (200 : Int32), .int x3] rfl (fun _ => rfl) rfl ?_
    refine dw_if (fun t => Φ (Option.bind t (dc_bk (d_X7_findHome_l21s x0)))) (200 ≤ (Int32.toInt x3)) [] 90 28 rfl (fun _ => rfl) (fun c0 => ?_) (fun c0 => ?_)
    · refine dw_g rfl ?_
      refine dg_s (pc' := 91) [.int x1] rfl (fun _ => rfl) rfl ?_
      exact dw_r (some (.inl (some (.int x1), m))) rfl (fun _ => rfl) (kR _ _)
    · refine dw_g rfl ?_
      refine dg_s (pc' := 29) [.int x1] rfl (fun _ => rfl) rfl ?_
      refine dg_s (pc' := 30) [.int x2, .int x1] rfl (fun _ => rfl) rfl ?_
      refine dw_if (fun t => Φ (Option.bind t (dc_bk (d_X7_findHome_l21s x0)))) ((Int32.toInt x1) ≤ (Int32.toInt x2)) [] 90 33 rfl (fun _ => rfl) (fun c1 => ?_) (fun c1 => ?_)
      · refine dw_g rfl ?_
        refine dg_s (pc' := 91) [.int x1] rfl (fun _ => rfl) rfl ?_
        exact dw_r (some (.inl (some (.int x1), m))) rfl (fun _ => rfl) (kR _ _)
      · refine dw_g rfl ?_
        refine dg_s (pc' := 34) [.int x1] rfl (fun _ => rfl) rfl ?_
        refine dg_L (pc' := 35) [(2, .int x1), (0, .ref x0), (1, .int x1), (3, .int x3)] [] rfl (fun _ => rfl) rfl ?_
        refine dg_s (pc' := 36) [.ref x0] rfl (fun _ => rfl) rfl ?_
        refine dg_s (pc' := 39) [.int (m.1 x0 0)] rfl (fun _ => rfl) rfl ?_
        refine dg_s (pc' := 40) [.int (1 : Int32), .int (m.1 x0 0)] rfl (fun _ => rfl) rfl ?_
        refine dg_s (pc' := 41) [.int ((m.1 x0 0) - (1 : Int32))] rfl (fun _ => rfl) rfl ?_
        refine dw_L (pc' := 43) [(4, .int ((m.1 x0 0) - (1 : Int32))), (2, .int x1), (0, .ref x0), (1, .int x1), (3, .int x3)] [] rfl (fun _ => rfl) ?_
        exact dw_j rfl (fun lv1 hv => k_X7_findHome_l43 (Φ := (fun t => Φ (Option.bind t (dc_bk (d_X7_findHome_l21s x0))))) x0 x1 x3 (fun _a _b => kR _a _b) N ih x1 ((m.1 x0 0) - (1 : Int32)) m lv1 (hv.1 _ rfl) (hv.2.1 _ rfl) (hv.2.2.1 _ rfl) (hv.2.2.2.1 _ rfl) (hv.2.2.2.2.1 _ rfl))
noncomputable def d_X7_findHome (x0 : Nat) (m : dc_M) : Option (Int32 × dc_M) :=
  ((d_J7_fill_53178 (x0 + 7) (0 : Int32) m).bind (fun q1 => (d_X7_findHome_l21 x0 (1 : Int32) (0 : Int32) (0 : Int32) (dc_wi q1 (x0 + 7) (Int32.toNatClampNeg (0 : Int32)) (1 : Int32)))))
set_option maxHeartbeats 8000000 in
theorem k_X7_findHome {u : Nat} {N : Nat} {Φ : (Option (Int32 × dc_M)) → Option Value → dc_M → Prop} (x0 : Nat) (m : dc_M) (kR : ∀ (v : Int32) (m : dc_M), Φ (some ((v, m))) (some (.int v)) m)  {lv : ab_L} (f0 : ab_lk lv 0 = some (.ref x0)) : dc_pv u N ab_M_X7_findHome 0 lv [] m (Φ (d_X7_findHome x0 m)) := by
  refine dc_pv.mono (dc_ok (C := C_X7_findHome) (S := S_X7_findHome) CO_X7_findHome 400 0 [(0, .ref x0)] lv [] m (dc_sub_cons f0 (dc_sub_nil)) ?_) (Nat.le_succ N)
  unfold d_X7_findHome
  refine dg_s (pc' := 1) [.ref x0] rfl (fun _ => rfl) rfl ?_
  refine dg_s (pc' := 4) [.ref (x0 + 7)] rfl (fun _ => rfl) rfl ?_
  refine dg_s (pc' := 5) [.int (0 : Int32), .ref (x0 + 7)] rfl (fun _ => rfl) rfl ?_
  refine dw_b (fun t => Φ t) (pc' := 8) (fun q1 => []) (fun q1 => q1) rfl (fun _ => rfl) (fun q1 => ?_)
  refine dw_g rfl ?_
  refine dg_s (pc' := 9) [.ref x0] rfl (fun _ => rfl) rfl ?_
  refine dg_s (pc' := 12) [.ref (x0 + 7)] rfl (fun _ => rfl) rfl ?_
  refine dg_s (pc' := 13) [.int (0 : Int32), .ref (x0 + 7)] rfl (fun _ => rfl) rfl ?_
  refine dg_s (pc' := 14) [.int (1 : Int32), .int (0 : Int32), .ref (x0 + 7)] rfl (fun _ => rfl) rfl ?_
  refine dg_m (pc' := 15) (dc_wi q1 (x0 + 7) (Int32.toNatClampNeg (0 : Int32)) (1 : Int32)) [] rfl (fun _ => rfl) rfl ?_
  refine dg_s (pc' := 16) [.int (1 : Int32)] rfl (fun _ => rfl) rfl ?_
  refine dg_L (pc' := 17) [(1, .int (1 : Int32)), (0, .ref x0)] [] rfl (fun _ => rfl) rfl ?_
  refine dg_s (pc' := 18) [.int (0 : Int32)] rfl (fun _ => rfl) rfl ?_
  refine dg_L (pc' := 19) [(2, .int (0 : Int32)), (1, .int (1 : Int32)), (0, .ref x0)] [] rfl (fun _ => rfl) rfl ?_
  refine dg_s (pc' := 20) [.int (0 : Int32)] rfl (fun _ => rfl) rfl ?_
  refine dw_L (pc' := 21) [(3, .int (0 : Int32)), (2, .int (0 : Int32)), (1, .int (1 : Int32)), (0, .ref x0)] [] rfl (fun _ => rfl) ?_
  exact dw_j rfl (fun lv1 hv => k_X7_findHome_l21 (Φ := (fun t => Φ t)) x0 (fun _a _b => kR _a _b) N  (1 : Int32) (0 : Int32) (0 : Int32) (dc_wi q1 (x0 + 7) (Int32.toNatClampNeg (0 : Int32)) (1 : Int32)) lv1 (hv.1 _ rfl) (hv.2.1 _ rfl) (hv.2.2.1 _ rfl) (hv.2.2.2.1 _ rfl))
noncomputable def H_X7_findHome : dc_H := fun As m k => match As with
  | [.ref x0] => (d_X7_findHome x0 m).bind (fun q => k (some (.int q.1)) q.2)
  | _ => dc_kz
theorem H_X7_findHome_ok {u : Nat} : dc_cok u 87 H_X7_findHome := fun M' hG N As m k P hz hP => by
  obtain rfl : ab_M_X7_findHome = M' := Option.some.inj hG
  unfold H_X7_findHome at hP
  split at hP
  · rename_i x0
    exact dc_pv.imp (k_X7_findHome (Φ := fun (t : Option (Int32 × dc_M)) r m' => P (t.bind (fun q => k (some (.int q.1)) q.2)) → P (k r m')) x0 m (fun _ _ h => h) rfl) (fun r m' h => h hP)
  · exact absurd hP hz
noncomputable def C_X7_astray : List (Nat × dc_H) := [(87, H_X7_findHome)]
theorem CO_X7_astray {u : Nat} : dc_CO u C_X7_astray := dc_CO_cons H_X7_findHome_ok (dc_CO_nil)
def S_X7_astray : List (Nat × List Nat) := []
noncomputable def d_X7_astray (x0 : Nat) (m : dc_M) : Option (Int32 × dc_M) :=
  (if ¬ (Int32.toInt (m.1 x0 11)) = (-100) then some (((m.1 x0 11), m)) else ((d_X7_findHome x0 m).bind (fun q1 => some ((((dc_wi q1.2 x0 11 ((m.1 x0 0) - q1.1)).1 x0 11), (dc_wi q1.2 x0 11 ((m.1 x0 0) - q1.1)))))))
set_option maxHeartbeats 8000000 in
theorem k_X7_astray {u : Nat} {N : Nat} {Φ : (Option (Int32 × dc_M)) → Option Value → dc_M → Prop} (x0 : Nat) (m : dc_M) (kR : ∀ (v : Int32) (m : dc_M), Φ (some ((v, m))) (some (.int v)) m)  {lv : ab_L} (f0 : ab_lk lv 0 = some (.ref x0)) : dc_pv u N ab_M_X7_astray 0 lv [] m (Φ (d_X7_astray x0 m)) := by
  refine dc_pv.mono (dc_ok (C := C_X7_astray) (S := S_X7_astray) CO_X7_astray 400 0 [(0, .ref x0)] lv [] m (dc_sub_cons f0 (dc_sub_nil)) ?_) (Nat.le_succ N)
  unfold d_X7_astray
  refine dg_s (pc' := 1) [.ref x0] rfl (fun _ => rfl) rfl ?_
  refine dg_s (pc' := 4) [.int (m.1 x0 11)] rfl (fun _ => rfl) rfl ?_
  refine dg_s (pc' := 6) [.int (-100 : Int32), .int (m.1 x0 11)] rfl (fun _ => rfl) rfl ?_
  refine dw_if (fun t => Φ t) (¬ (Int32.toInt (m.1 x0 11)) = (-100)) [] 22 9 rfl (fun _ => rfl) (fun c0 => ?_) (fun c0 => ?_)
  · refine dw_g rfl ?_
    refine dg_s (pc' := 23) [.ref x0] rfl (fun _ => rfl) rfl ?_
    refine dg_s (pc' := 26) [.int (m.1 x0 11)] rfl (fun _ => rfl) rfl ?_
    exact dw_r (some (.inl (some (.int (m.1 x0 11)), m))) rfl (fun _ => rfl) (kR _ _)
  · refine dw_g rfl ?_
    refine dg_s (pc' := 10) [.ref x0] rfl (fun _ => rfl) rfl ?_
    refine dg_s (pc' := 11) [.ref x0, .ref x0] rfl (fun _ => rfl) rfl ?_
    refine dg_s (pc' := 14) [.int (m.1 x0 0), .ref x0] rfl (fun _ => rfl) rfl ?_
    refine dg_s (pc' := 15) [.ref x0, .int (m.1 x0 0), .ref x0] rfl (fun _ => rfl) rfl ?_
    refine dw_b (fun t => Φ t) (pc' := 18) (fun q1 => [.int q1.1, .int (m.1 x0 0), .ref x0]) (fun q1 => q1.2) rfl (fun _ => rfl) (fun q1 => ?_)
    refine dw_g rfl ?_
    refine dg_s (pc' := 19) [.int ((m.1 x0 0) - q1.1), .ref x0] rfl (fun _ => rfl) rfl ?_
    refine dg_m (pc' := 22) (dc_wi q1.2 x0 11 ((m.1 x0 0) - q1.1)) [] rfl (fun _ => rfl) rfl ?_
    refine dg_s (pc' := 23) [.ref x0] rfl (fun _ => rfl) rfl ?_
    refine dg_s (pc' := 26) [.int ((dc_wi q1.2 x0 11 ((m.1 x0 0) - q1.1)).1 x0 11)] rfl (fun _ => rfl) rfl ?_
    exact dw_r (some (.inl (some (.int ((dc_wi q1.2 x0 11 ((m.1 x0 0) - q1.1)).1 x0 11)), (dc_wi q1.2 x0 11 ((m.1 x0 0) - q1.1))))) rfl (fun _ => rfl) (kR _ _)
noncomputable def H_X7_astray : dc_H := fun As m k => match As with
  | [.ref x0] => (d_X7_astray x0 m).bind (fun q => k (some (.int q.1)) q.2)
  | _ => dc_kz
theorem H_X7_astray_ok {u : Nat} : dc_cok u 86 H_X7_astray := fun M' hG N As m k P hz hP => by
  obtain rfl : ab_M_X7_astray = M' := Option.some.inj hG
  unfold H_X7_astray at hP
  split at hP
  · rename_i x0
    exact dc_pv.imp (k_X7_astray (Φ := fun (t : Option (Int32 × dc_M)) r m' => P (t.bind (fun q => k (some (.int q.1)) q.2)) → P (k r m')) x0 m (fun _ _ h => h) rfl) (fun r m' h => h hP)
  · exact absurd hP hz
def C_X7_ends : List (Nat × dc_H) := []
theorem CO_X7_ends {u : Nat} : dc_CO u C_X7_ends := dc_CO_nil
def S_X7_ends : List (Nat × List Nat) := [(4, [0, 1, 2])]
noncomputable def d_X7_ends_l4b (x0 : Nat) (x1 : Int32) (x2 : Int32) (m : dc_M) : Option ((Int32 × Int32) ⊕ Int32) :=
  (if (Int32.toInt (m.1 x0 0)) ≤ (Int32.toInt x2) then some (Sum.inr (x1)) else (if ¬ (Int32.toInt (m.1 (x0 + 2) (Int32.toNatClampNeg x2))) = 0 then some (Sum.inl (x1, (x2 + (1 : Int32)))) else some (Sum.inl ((x1 + (1 : Int32)), (x2 + (1 : Int32))))))
noncomputable def d_X7_ends_l4s (x0 : Nat) (m : dc_M) : (Int32 × Int32) → Option ((Int32 × Int32) ⊕ Int32) := fun s => d_X7_ends_l4b x0 s.1 s.2 m
noncomputable def d_X7_ends_l4 (x0 : Nat) (x1 : Int32) (x2 : Int32) (m : dc_M) : Option Int32 := dc_lp (d_X7_ends_l4s x0 m) (x1, x2)
set_option maxHeartbeats 8000000 in
theorem k_X7_ends_l4 {u : Nat} {Φ : (Option Int32) → Option Value → dc_M → Prop} (x0 : Nat) (m : dc_M) (kR : ∀ (v : Int32), Φ (some (v)) (some (.int v)) m) : ∀ (N : Nat), ∀ (x1 : Int32) (x2 : Int32) (lv : ab_L), ab_lk lv 0 = some (.ref x0) → ab_lk lv 1 = some (.int x1) → ab_lk lv 2 = some (.int x2) → dc_pv u N ab_M_X7_ends 4 lv [] m (Φ (d_X7_ends_l4 x0 x1 x2 m)) := by
  intro N
  induction N with
  | zero => intros; exact dc_pv_zero
  | succ N ih =>
    intro x1 x2 lv f0 f1 f2
    refine dc_ok (C := C_X7_ends) (S := S_X7_ends) CO_X7_ends 400 4 [(0, .ref x0), (1, .int x1), (2, .int x2)] lv [] m (dc_sub_cons f0 (dc_sub_cons f1 (dc_sub_cons f2 (dc_sub_nil)))) ?_
    unfold d_X7_ends_l4
    rw [dc_lp_eq]
    show (fun t x => dc_lf u N ab_M_X7_ends (Φ (Option.bind t (dc_bk (d_X7_ends_l4s x0 m)))) x) (d_X7_ends_l4b x0 x1 x2 m) _
    dsimp only
    unfold d_X7_ends_l4b
    refine dg_s (pc' := 5) [.int x2] rfl (fun _ => rfl) rfl ?_
    refine dg_s (pc' := 6) [.ref x0, .int x2] rfl (fun _ => rfl) rfl ?_
    refine dg_s (pc' := 9) [.int (m.1 x0 0), .int x2] rfl (fun _ => rfl) rfl ?_
    refine dw_if (fun t => Φ (Option.bind t (dc_bk (d_X7_ends_l4s x0 m)))) ((Int32.toInt (m.1 x0 0)) ≤ (Int32.toInt x2)) [] 30 12 rfl (fun _ => rfl) (fun c0 => ?_) (fun c0 => ?_)
    · refine dw_g rfl ?_
      refine dg_s (pc' := 31) [.int x1] rfl (fun _ => rfl) rfl ?_
      exact dw_r (some (.inl (some (.int x1), m))) rfl (fun _ => rfl) (kR _)
    · refine dw_g rfl ?_
      refine dg_s (pc' := 13) [.ref x0] rfl (fun _ => rfl) rfl ?_
      refine dg_s (pc' := 16) [.ref (x0 + 2)] rfl (fun _ => rfl) rfl ?_
      refine dg_s (pc' := 17) [.int x2, .ref (x0 + 2)] rfl (fun _ => rfl) rfl ?_
      refine dg_s (pc' := 18) [.int (m.1 (x0 + 2) (Int32.toNatClampNeg x2))] rfl (fun _ => rfl) rfl ?_
      refine dw_if (fun t => Φ (Option.bind t (dc_bk (d_X7_ends_l4s x0 m)))) (¬ (Int32.toInt (m.1 (x0 + 2) (Int32.toNatClampNeg x2))) = 0) [] 24 21 rfl (fun _ => rfl) (fun c1 => ?_) (fun c1 => ?_)
      · refine dw_g rfl ?_
        refine dg_L (pc' := 27) [(2, .int (x2 + (1 : Int32))), (0, .ref x0), (1, .int x1)] [] rfl (fun _ => rfl) rfl ?_
        refine dw_s (pc' := 4) [] rfl (fun _ => rfl) ?_
        exact dw_j rfl (fun lv1 hv => ih x1 (x2 + (1 : Int32)) lv1 (hv.1 _ rfl) (hv.2.1 _ rfl) (hv.2.2.1 _ rfl))
      · refine dw_g rfl ?_
        refine dg_L (pc' := 24) [(1, .int (x1 + (1 : Int32))), (0, .ref x0), (2, .int x2)] [] rfl (fun _ => rfl) rfl ?_
        refine dg_L (pc' := 27) [(2, .int (x2 + (1 : Int32))), (1, .int (x1 + (1 : Int32))), (0, .ref x0)] [] rfl (fun _ => rfl) rfl ?_
        refine dw_s (pc' := 4) [] rfl (fun _ => rfl) ?_
        exact dw_j rfl (fun lv1 hv => ih (x1 + (1 : Int32)) (x2 + (1 : Int32)) lv1 (hv.1 _ rfl) (hv.2.1 _ rfl) (hv.2.2.1 _ rfl))
noncomputable def d_X7_ends (x0 : Nat) (m : dc_M) : Option Int32 :=
  (d_X7_ends_l4 x0 (0 : Int32) (0 : Int32) m)
set_option maxHeartbeats 8000000 in
theorem k_X7_ends {u : Nat} {N : Nat} {Φ : (Option Int32) → Option Value → dc_M → Prop} (x0 : Nat) (m : dc_M) (kR : ∀ (v : Int32), Φ (some (v)) (some (.int v)) m)  {lv : ab_L} (f0 : ab_lk lv 0 = some (.ref x0)) : dc_pv u N ab_M_X7_ends 0 lv [] m (Φ (d_X7_ends x0 m)) := by
  refine dc_pv.mono (dc_ok (C := C_X7_ends) (S := S_X7_ends) CO_X7_ends 400 0 [(0, .ref x0)] lv [] m (dc_sub_cons f0 (dc_sub_nil)) ?_) (Nat.le_succ N)
  unfold d_X7_ends
  refine dg_s (pc' := 1) [.int (0 : Int32)] rfl (fun _ => rfl) rfl ?_
  refine dg_L (pc' := 2) [(1, .int (0 : Int32)), (0, .ref x0)] [] rfl (fun _ => rfl) rfl ?_
  refine dg_s (pc' := 3) [.int (0 : Int32)] rfl (fun _ => rfl) rfl ?_
  refine dw_L (pc' := 4) [(2, .int (0 : Int32)), (1, .int (0 : Int32)), (0, .ref x0)] [] rfl (fun _ => rfl) ?_
  exact dw_j rfl (fun lv1 hv => k_X7_ends_l4 (Φ := (fun t => Φ t)) x0 m (fun _a  => kR _a) N  (0 : Int32) (0 : Int32) lv1 (hv.1 _ rfl) (hv.2.1 _ rfl) (hv.2.2.1 _ rfl))
noncomputable def H_X7_ends : dc_H := fun As m k => match As with
  | [.ref x0] => (d_X7_ends x0 m).bind (fun q => k (some (.int q)) m)
  | _ => dc_kz
theorem H_X7_ends_ok {u : Nat} : dc_cok u 85 H_X7_ends := fun M' hG N As m k P hz hP => by
  obtain rfl : ab_M_X7_ends = M' := Option.some.inj hG
  unfold H_X7_ends at hP
  split at hP
  · rename_i x0
    exact dc_pv.imp (k_X7_ends (Φ := fun (t : Option Int32) r m' => P (t.bind (fun q => k (some (.int q)) m)) → P (k r m')) x0 m (fun _  h => h) rfl) (fun r m' h => h hP)
  · exact absurd hP hz
noncomputable def C_X9_stuck : List (Nat × dc_H) := [(229, H_J6_bitCount_0f7a4), (86, H_X7_astray), (85, H_X7_ends), (134, H_X9_explore)]
theorem CO_X9_stuck {u : Nat} : dc_CO u C_X9_stuck := dc_CO_cons H_J6_bitCount_0f7a4_ok (dc_CO_cons H_X7_astray_ok (dc_CO_cons H_X7_ends_ok (dc_CO_cons H_X9_explore_ok (dc_CO_nil))))
def S_X9_stuck : List (Nat × List Nat) := []
noncomputable def d_X9_stuck (x0 : Nat) (x1 : Int32) (m : dc_M) : Option (Int32 × dc_M) :=
  (if (Int32.toInt x1) < 0 then some (((-1 : Int32), m)) else (if (Int32.toInt x1) ≤ 2 then ((d_X9_explore x0 m).bind (fun q1 => (if (Int32.toInt (q1.1 (x0 + 3) 1)) = 0 then (if (Int32.toInt x1) = 0 then ((d_X7_ends (x0 + 3) q1).bind (fun q2 => some ((q2, q1)))) else (if (Int32.toInt x1) = 1 then ((d_X7_astray (x0 + 3) q1).bind (fun q3 => some ((q3.1, q3.2)))) else some ((((q1.1 (q1.2.2.1 x0 7) 1) - (d_J6_bitCount_0f7a4 (q1.1 (x0 + 3) 2) q1)), q1)))) else some (((-2 : Int32), q1))))) else some (((-1 : Int32), m))))
set_option maxHeartbeats 8000000 in
theorem k_X9_stuck {u : Nat} {N : Nat} {Φ : (Option (Int32 × dc_M)) → Option Value → dc_M → Prop} (x0 : Nat) (x1 : Int32) (m : dc_M) (kR : ∀ (v : Int32) (m : dc_M), Φ (some ((v, m))) (some (.int v)) m)  {lv : ab_L} (f0 : ab_lk lv 0 = some (.ref x0)) (f1 : ab_lk lv 1 = some (.int x1)) : dc_pv u N ab_M_X9_stuck 0 lv [] m (Φ (d_X9_stuck x0 x1 m)) := by
  refine dc_pv.mono (dc_ok (C := C_X9_stuck) (S := S_X9_stuck) CO_X9_stuck 400 0 [(0, .ref x0), (1, .int x1)] lv [] m (dc_sub_cons f0 (dc_sub_cons f1 (dc_sub_nil))) ?_) (Nat.le_succ N)
  unfold d_X9_stuck
  refine dg_s (pc' := 1) [.int x1] rfl (fun _ => rfl) rfl ?_
  refine dw_if (fun t => Φ t) ((Int32.toInt x1) < 0) [] 9 4 rfl (fun _ => rfl) (fun c0 => ?_) (fun c0 => ?_)
  · refine dw_g rfl ?_
    refine dg_s (pc' := 10) [.int (-1 : Int32)] rfl (fun _ => rfl) rfl ?_
    exact dw_r (some (.inl (some (.int (-1 : Int32)), m))) rfl (fun _ => rfl) (kR _ _)
  · refine dw_g rfl ?_
    refine dg_s (pc' := 5) [.int x1] rfl (fun _ => rfl) rfl ?_
    refine dg_s (pc' := 6) [.int (2 : Int32), .int x1] rfl (fun _ => rfl) rfl ?_
    refine dw_if (fun t => Φ t) ((Int32.toInt x1) ≤ 2) [] 11 9 rfl (fun _ => rfl) (fun c1 => ?_) (fun c1 => ?_)
    · refine dw_g rfl ?_
      refine dg_s (pc' := 12) [.ref x0] rfl (fun _ => rfl) rfl ?_
      refine dw_b (fun t => Φ t) (pc' := 15) (fun q1 => []) (fun q1 => q1) rfl (fun _ => rfl) (fun q1 => ?_)
      refine dw_g rfl ?_
      refine dg_s (pc' := 16) [.ref x0] rfl (fun _ => rfl) rfl ?_
      refine dg_s (pc' := 19) [.ref (x0 + 3)] rfl (fun _ => rfl) rfl ?_
      refine dg_s (pc' := 22) [.int (q1.1 (x0 + 3) 1)] rfl (fun _ => rfl) rfl ?_
      refine dw_if (fun t => Φ t) ((Int32.toInt (q1.1 (x0 + 3) 1)) = 0) [] 28 25 rfl (fun _ => rfl) (fun c2 => ?_) (fun c2 => ?_)
      · refine dw_g rfl ?_
        refine dg_s (pc' := 29) [.int x1] rfl (fun _ => rfl) rfl ?_
        refine dw_sw (fun t => Φ t) ((Int32.toInt x1)) 72 [(0, 56), (1, 64)] [] rfl (fun _ => rfl) ?_
        refine dw_ts (fun t => Φ t) (fun c3 => ?_) (fun c3 => ?_)
        · refine dw_g rfl ?_
          refine dg_s (pc' := 57) [.ref x0] rfl (fun _ => rfl) rfl ?_
          refine dg_s (pc' := 60) [.ref (x0 + 3)] rfl (fun _ => rfl) rfl ?_
          refine dw_b (fun t => Φ t) (pc' := 63) (fun q2 => [.int q2]) (fun q2 => q1) rfl (fun _ => rfl) (fun q2 => ?_)
          refine dw_g rfl ?_
          exact dw_r (some (.inl (some (.int q2), q1))) rfl (fun _ => rfl) (kR _ _)
        refine dw_ts (fun t => Φ t) (fun c4 => ?_) (fun c4 => ?_)
        · refine dw_g rfl ?_
          refine dg_s (pc' := 65) [.ref x0] rfl (fun _ => rfl) rfl ?_
          refine dg_s (pc' := 68) [.ref (x0 + 3)] rfl (fun _ => rfl) rfl ?_
          refine dw_b (fun t => Φ t) (pc' := 71) (fun q3 => [.int q3.1]) (fun q3 => q3.2) rfl (fun _ => rfl) (fun q3 => ?_)
          refine dw_g rfl ?_
          exact dw_r (some (.inl (some (.int q3.1), q3.2))) rfl (fun _ => rfl) (kR _ _)
        refine dw_t0 ?_
        refine dw_g rfl ?_
        refine dg_s (pc' := 73) [.ref x0] rfl (fun _ => rfl) rfl ?_
        refine dg_s (pc' := 76) [.ref (q1.2.2.1 x0 7)] rfl (fun _ => rfl) rfl ?_
        refine dg_s (pc' := 79) [.int (q1.1 (q1.2.2.1 x0 7) 1)] rfl (fun _ => rfl) rfl ?_
        refine dg_s (pc' := 80) [.ref x0, .int (q1.1 (q1.2.2.1 x0 7) 1)] rfl (fun _ => rfl) rfl ?_
        refine dg_s (pc' := 83) [.ref (x0 + 3), .int (q1.1 (q1.2.2.1 x0 7) 1)] rfl (fun _ => rfl) rfl ?_
        refine dg_s (pc' := 86) [.int (q1.1 (x0 + 3) 2), .int (q1.1 (q1.2.2.1 x0 7) 1)] rfl (fun _ => rfl) rfl ?_
        refine dg_s (pc' := 89) [.int (d_J6_bitCount_0f7a4 (q1.1 (x0 + 3) 2) q1), .int (q1.1 (q1.2.2.1 x0 7) 1)] rfl (fun _ => rfl) rfl ?_
        refine dg_s (pc' := 90) [.int ((q1.1 (q1.2.2.1 x0 7) 1) - (d_J6_bitCount_0f7a4 (q1.1 (x0 + 3) 2) q1))] rfl (fun _ => rfl) rfl ?_
        exact dw_r (some (.inl (some (.int ((q1.1 (q1.2.2.1 x0 7) 1) - (d_J6_bitCount_0f7a4 (q1.1 (x0 + 3) 2) q1))), q1))) rfl (fun _ => rfl) (kR _ _)
      · refine dw_g rfl ?_
        refine dg_s (pc' := 27) [.int (-2 : Int32)] rfl (fun _ => rfl) rfl ?_
        exact dw_r (some (.inl (some (.int (-2 : Int32)), q1))) rfl (fun _ => rfl) (kR _ _)
    · refine dw_g rfl ?_
      refine dg_s (pc' := 10) [.int (-1 : Int32)] rfl (fun _ => rfl) rfl ?_
      exact dw_r (some (.inl (some (.int (-1 : Int32)), m))) rfl (fun _ => rfl) (kR _ _)
noncomputable def H_X9_stuck : dc_H := fun As m k => match As with
  | [.ref x0, .int x1] => (d_X9_stuck x0 x1 m).bind (fun q => k (some (.int q.1)) q.2)
  | _ => dc_kz
theorem H_X9_stuck_ok {u : Nat} : dc_cok u 113 H_X9_stuck := fun M' hG N As m k P hz hP => by
  obtain rfl : ab_M_X9_stuck = M' := Option.some.inj hG
  unfold H_X9_stuck at hP
  split at hP
  · rename_i x0 x1
    exact dc_pv.imp (k_X9_stuck (Φ := fun (t : Option (Int32 × dc_M)) r m' => P (t.bind (fun q => k (some (.int q.1)) q.2)) → P (k r m')) x0 x1 m (fun _ _ h => h) rfl rfl) (fun r m' h => h hP)
  · exact absurd hP hz
noncomputable def C_X10_stuck : List (Nat × dc_H) := [(146, H_X10_in), (173, H_X10_layStates), (178, H_X10_readyIn)]
theorem CO_X10_stuck {u : Nat} : dc_CO u C_X10_stuck := dc_CO_cons H_X10_in_ok (dc_CO_cons H_X10_layStates_ok (dc_CO_cons H_X10_readyIn_ok (dc_CO_nil)))
def S_X10_stuck : List (Nat × List Nat) := [(32, [0, 1, 2, 3, 4]), (56, [0, 1, 3, 4]), (93, [0, 1, 2, 3, 4]), (104, [0, 1, 2, 3, 4, 5]), (116, [0, 1, 2, 3, 4, 5, 6]), (202, [0, 1, 2, 3, 5, 6, 7]), (240, [0, 1, 2, 3, 5, 6, 7]), (268, [1, 2, 5, 6])]
noncomputable def d_X10_stuck_b268 (x1 : Int32) (x2 : Int32) (x5 : Int32) (x6 : Int32) (m : dc_M) : Option (Int32 × dc_M) :=
  (if ¬ (Int32.toInt x1) = 0 then (if ¬ (Int32.toInt x1) = 1 then some ((x6, m)) else some ((x5, m))) else some ((x2, m)))
set_option maxHeartbeats 8000000 in
theorem k_X10_stuck_b268 {u : Nat} {N : Nat} {Φ : (Option (Int32 × dc_M)) → Option Value → dc_M → Prop} (x1 : Int32) (x2 : Int32) (x5 : Int32) (x6 : Int32) (m : dc_M) (kR : ∀ (v : Int32) (m : dc_M), Φ (some ((v, m))) (some (.int v)) m)  {lv : ab_L} (f1 : ab_lk lv 1 = some (.int x1)) (f2 : ab_lk lv 2 = some (.int x2)) (f5 : ab_lk lv 5 = some (.int x5)) (f6 : ab_lk lv 6 = some (.int x6)) : dc_pv u N ab_M_X10_stuck 268 lv [] m (Φ (d_X10_stuck_b268 x1 x2 x5 x6 m)) := by
  refine dc_pv.mono (dc_ok (C := C_X10_stuck) (S := S_X10_stuck) CO_X10_stuck 400 268 [(1, .int x1), (2, .int x2), (5, .int x5), (6, .int x6)] lv [] m (dc_sub_cons f1 (dc_sub_cons f2 (dc_sub_cons f5 (dc_sub_cons f6 (dc_sub_nil))))) ?_) (Nat.le_succ N)
  unfold d_X10_stuck_b268
  refine dg_s (pc' := 269) [.int x1] rfl (fun _ => rfl) rfl ?_
  refine dw_if (fun t => Φ t) (¬ (Int32.toInt x1) = 0) [] 276 272 rfl (fun _ => rfl) (fun c0 => ?_) (fun c0 => ?_)
  · refine dw_g rfl ?_
    refine dg_s (pc' := 277) [.int x1] rfl (fun _ => rfl) rfl ?_
    refine dg_s (pc' := 278) [.int (1 : Int32), .int x1] rfl (fun _ => rfl) rfl ?_
    refine dw_if (fun t => Φ t) (¬ (Int32.toInt x1) = 1) [] 286 281 rfl (fun _ => rfl) (fun c1 => ?_) (fun c1 => ?_)
    · refine dw_g rfl ?_
      refine dg_s (pc' := 288) [.int x6] rfl (fun _ => rfl) rfl ?_
      exact dw_r (some (.inl (some (.int x6), m))) rfl (fun _ => rfl) (kR _ _)
    · refine dw_g rfl ?_
      refine dg_s (pc' := 283) [.int x5] rfl (fun _ => rfl) rfl ?_
      refine dg_s (pc' := 288) [.int x5] rfl (fun _ => rfl) rfl ?_
      exact dw_r (some (.inl (some (.int x5), m))) rfl (fun _ => rfl) (kR _ _)
  · refine dw_g rfl ?_
    refine dg_s (pc' := 273) [.int x2] rfl (fun _ => rfl) rfl ?_
    refine dg_s (pc' := 288) [.int x2] rfl (fun _ => rfl) rfl ?_
    exact dw_r (some (.inl (some (.int x2), m))) rfl (fun _ => rfl) (kR _ _)
noncomputable def d_X10_stuck_l240b (x0 : Nat) (x1 : Int32) (x2 : Int32) (x3 : Int32) (x5 : Int32) (x6 : Int32) (x7 : Int32) (m : dc_M) : Option ((Int32 × Int32) ⊕ (Int32 × dc_M)) :=
  (if (Int32.toInt (m.1 x0 3)) ≤ (Int32.toInt x7) then ((d_X10_stuck_b268 x1 x2 x5 x6 m).map (fun z => Sum.inr (z))) else some (Sum.inl ((x6 + ((1 : Int32) - ((x3 >>> (x7 &&& 31)) &&& (1 : Int32)))), (x7 + (1 : Int32)))))
noncomputable def d_X10_stuck_l240s (x0 : Nat) (x1 : Int32) (x2 : Int32) (x3 : Int32) (x5 : Int32) (m : dc_M) : (Int32 × Int32) → Option ((Int32 × Int32) ⊕ (Int32 × dc_M)) := fun s => d_X10_stuck_l240b x0 x1 x2 x3 x5 s.1 s.2 m
noncomputable def d_X10_stuck_l240 (x0 : Nat) (x1 : Int32) (x2 : Int32) (x3 : Int32) (x5 : Int32) (x6 : Int32) (x7 : Int32) (m : dc_M) : Option (Int32 × dc_M) := dc_lp (d_X10_stuck_l240s x0 x1 x2 x3 x5 m) (x6, x7)
set_option maxHeartbeats 8000000 in
theorem k_X10_stuck_l240 {u : Nat} {Φ : (Option (Int32 × dc_M)) → Option Value → dc_M → Prop} (x0 : Nat) (x1 : Int32) (x2 : Int32) (x3 : Int32) (x5 : Int32) (m : dc_M) (kR : ∀ (v : Int32) (m : dc_M), Φ (some ((v, m))) (some (.int v)) m) : ∀ (N : Nat), ∀ (x6 : Int32) (x7 : Int32) (lv : ab_L), ab_lk lv 0 = some (.ref x0) → ab_lk lv 1 = some (.int x1) → ab_lk lv 2 = some (.int x2) → ab_lk lv 3 = some (.int x3) → ab_lk lv 5 = some (.int x5) → ab_lk lv 6 = some (.int x6) → ab_lk lv 7 = some (.int x7) → dc_pv u N ab_M_X10_stuck 240 lv [] m (Φ (d_X10_stuck_l240 x0 x1 x2 x3 x5 x6 x7 m)) := by
  intro N
  induction N with
  | zero => intros; exact dc_pv_zero
  | succ N ih =>
    intro x6 x7 lv f0 f1 f2 f3 f5 f6 f7
    refine dc_ok (C := C_X10_stuck) (S := S_X10_stuck) CO_X10_stuck 400 240 [(0, .ref x0), (1, .int x1), (2, .int x2), (3, .int x3), (5, .int x5), (6, .int x6), (7, .int x7)] lv [] m (dc_sub_cons f0 (dc_sub_cons f1 (dc_sub_cons f2 (dc_sub_cons f3 (dc_sub_cons f5 (dc_sub_cons f6 (dc_sub_cons f7 (dc_sub_nil)))))))) ?_
    unfold d_X10_stuck_l240
    rw [dc_lp_eq]
    show (fun t x => dc_lf u N ab_M_X10_stuck (Φ (Option.bind t (dc_bk (d_X10_stuck_l240s x0 x1 x2 x3 x5 m)))) x) (d_X10_stuck_l240b x0 x1 x2 x3 x5 x6 x7 m) _
    dsimp only
    unfold d_X10_stuck_l240b
    refine dg_s (pc' := 242) [.int x7] rfl (fun _ => rfl) rfl ?_
    refine dg_s (pc' := 243) [.ref x0, .int x7] rfl (fun _ => rfl) rfl ?_
    refine dg_s (pc' := 246) [.int (m.1 x0 3), .int x7] rfl (fun _ => rfl) rfl ?_
    refine dw_if (fun t => Φ (Option.bind t (dc_bk (d_X10_stuck_l240s x0 x1 x2 x3 x5 m)))) ((Int32.toInt (m.1 x0 3)) ≤ (Int32.toInt x7)) [] 268 249 rfl (fun _ => rfl) (fun c0 => ?_) (fun c0 => ?_)
    · exact dw_j rfl (fun lv1 hv => k_X10_stuck_b268 (Φ := (fun t => Φ (Option.bind (t.map (fun z => Sum.inr (z))) (dc_bk (d_X10_stuck_l240s x0 x1 x2 x3 x5 m))))) x1 x2 x5 x6 m (fun _a _b => kR _a _b)  (hv.1 _ rfl) (hv.2.1 _ rfl) (hv.2.2.1 _ rfl) (hv.2.2.2.1 _ rfl))
    · refine dw_g rfl ?_
      refine dg_s (pc' := 251) [.int x6] rfl (fun _ => rfl) rfl ?_
      refine dg_s (pc' := 252) [.int (1 : Int32), .int x6] rfl (fun _ => rfl) rfl ?_
      refine dg_s (pc' := 253) [.int x3, .int (1 : Int32), .int x6] rfl (fun _ => rfl) rfl ?_
      refine dg_s (pc' := 255) [.int x7, .int x3, .int (1 : Int32), .int x6] rfl (fun _ => rfl) rfl ?_
      refine dg_s (pc' := 256) [.int (x3 >>> (x7 &&& 31)), .int (1 : Int32), .int x6] rfl (fun _ => rfl) rfl ?_
      refine dg_s (pc' := 257) [.int (1 : Int32), .int (x3 >>> (x7 &&& 31)), .int (1 : Int32), .int x6] rfl (fun _ => rfl) rfl ?_
      refine dg_s (pc' := 258) [.int ((x3 >>> (x7 &&& 31)) &&& (1 : Int32)), .int (1 : Int32), .int x6] rfl (fun _ => rfl) rfl ?_
      refine dg_s (pc' := 259) [.int ((1 : Int32) - ((x3 >>> (x7 &&& 31)) &&& (1 : Int32))), .int x6] rfl (fun _ => rfl) rfl ?_
      refine dg_s (pc' := 260) [.int (x6 + ((1 : Int32) - ((x3 >>> (x7 &&& 31)) &&& (1 : Int32))))] rfl (fun _ => rfl) rfl ?_
      refine dg_L (pc' := 262) [(6, .int (x6 + ((1 : Int32) - ((x3 >>> (x7 &&& 31)) &&& (1 : Int32))))), (0, .ref x0), (1, .int x1), (2, .int x2), (3, .int x3), (5, .int x5), (7, .int x7)] [] rfl (fun _ => rfl) rfl ?_
      refine dg_L (pc' := 265) [(7, .int (x7 + (1 : Int32))), (6, .int (x6 + ((1 : Int32) - ((x3 >>> (x7 &&& 31)) &&& (1 : Int32))))), (0, .ref x0), (1, .int x1), (2, .int x2), (3, .int x3), (5, .int x5)] [] rfl (fun _ => rfl) rfl ?_
      refine dw_s (pc' := 240) [] rfl (fun _ => rfl) ?_
      exact dw_j rfl (fun lv1 hv => ih (x6 + ((1 : Int32) - ((x3 >>> (x7 &&& 31)) &&& (1 : Int32)))) (x7 + (1 : Int32)) lv1 (hv.1 _ rfl) (hv.2.1 _ rfl) (hv.2.2.1 _ rfl) (hv.2.2.2.1 _ rfl) (hv.2.2.2.2.1 _ rfl) (hv.2.2.2.2.2.1 _ rfl) (hv.2.2.2.2.2.2.1 _ rfl))
noncomputable def d_X10_stuck_l202b (x0 : Nat) (x1 : Int32) (x2 : Int32) (x3 : Int32) (x6 : Int32) (x5 : Int32) (x7 : Int32) (m : dc_M) : Option ((Int32 × Int32) ⊕ (Int32 × dc_M)) :=
  (if (Int32.toInt (m.1 x0 32)) ≤ (Int32.toInt x7) then ((d_X10_stuck_l240 x0 x1 x2 x3 x5 x6 (0 : Int32) m).map (fun z => Sum.inr (z))) else (if (Int32.toInt (m.1 (x0 + 20) (Int32.toNatClampNeg x7))) = 0 then some (Sum.inl ((x5 + (1 : Int32)), (x7 + (1 : Int32)))) else some (Sum.inl ((x5 + (0 : Int32)), (x7 + (1 : Int32))))))
noncomputable def d_X10_stuck_l202s (x0 : Nat) (x1 : Int32) (x2 : Int32) (x3 : Int32) (x6 : Int32) (m : dc_M) : (Int32 × Int32) → Option ((Int32 × Int32) ⊕ (Int32 × dc_M)) := fun s => d_X10_stuck_l202b x0 x1 x2 x3 x6 s.1 s.2 m
noncomputable def d_X10_stuck_l202 (x0 : Nat) (x1 : Int32) (x2 : Int32) (x3 : Int32) (x6 : Int32) (x5 : Int32) (x7 : Int32) (m : dc_M) : Option (Int32 × dc_M) := dc_lp (d_X10_stuck_l202s x0 x1 x2 x3 x6 m) (x5, x7)
set_option maxHeartbeats 8000000 in
theorem k_X10_stuck_l202 {u : Nat} {Φ : (Option (Int32 × dc_M)) → Option Value → dc_M → Prop} (x0 : Nat) (x1 : Int32) (x2 : Int32) (x3 : Int32) (x6 : Int32) (m : dc_M) (kR : ∀ (v : Int32) (m : dc_M), Φ (some ((v, m))) (some (.int v)) m) : ∀ (N : Nat), ∀ (x5 : Int32) (x7 : Int32) (lv : ab_L), ab_lk lv 0 = some (.ref x0) → ab_lk lv 1 = some (.int x1) → ab_lk lv 2 = some (.int x2) → ab_lk lv 3 = some (.int x3) → ab_lk lv 5 = some (.int x5) → ab_lk lv 6 = some (.int x6) → ab_lk lv 7 = some (.int x7) → dc_pv u N ab_M_X10_stuck 202 lv [] m (Φ (d_X10_stuck_l202 x0 x1 x2 x3 x6 x5 x7 m)) := by
  intro N
  induction N with
  | zero => intros; exact dc_pv_zero
  | succ N ih =>
    intro x5 x7 lv f0 f1 f2 f3 f5 f6 f7
    refine dc_ok (C := C_X10_stuck) (S := S_X10_stuck) CO_X10_stuck 400 202 [(0, .ref x0), (1, .int x1), (2, .int x2), (3, .int x3), (5, .int x5), (6, .int x6), (7, .int x7)] lv [] m (dc_sub_cons f0 (dc_sub_cons f1 (dc_sub_cons f2 (dc_sub_cons f3 (dc_sub_cons f5 (dc_sub_cons f6 (dc_sub_cons f7 (dc_sub_nil)))))))) ?_
    unfold d_X10_stuck_l202
    rw [dc_lp_eq]
    show (fun t x => dc_lf u N ab_M_X10_stuck (Φ (Option.bind t (dc_bk (d_X10_stuck_l202s x0 x1 x2 x3 x6 m)))) x) (d_X10_stuck_l202b x0 x1 x2 x3 x6 x5 x7 m) _
    dsimp only
    unfold d_X10_stuck_l202b
    refine dg_s (pc' := 204) [.int x7] rfl (fun _ => rfl) rfl ?_
    refine dg_s (pc' := 205) [.ref x0, .int x7] rfl (fun _ => rfl) rfl ?_
    refine dg_s (pc' := 208) [.int (m.1 x0 32), .int x7] rfl (fun _ => rfl) rfl ?_
    refine dw_if (fun t => Φ (Option.bind t (dc_bk (d_X10_stuck_l202s x0 x1 x2 x3 x6 m)))) ((Int32.toInt (m.1 x0 32)) ≤ (Int32.toInt x7)) [] 237 211 rfl (fun _ => rfl) (fun c0 => ?_) (fun c0 => ?_)
    · refine dw_g rfl ?_
      refine dg_s (pc' := 238) [.int (0 : Int32)] rfl (fun _ => rfl) rfl ?_
      refine dw_L (pc' := 240) [(7, .int (0 : Int32)), (0, .ref x0), (1, .int x1), (2, .int x2), (3, .int x3), (5, .int x5), (6, .int x6)] [] rfl (fun _ => rfl) ?_
      exact dw_j rfl (fun lv1 hv => k_X10_stuck_l240 (Φ := (fun t => Φ (Option.bind (t.map (fun z => Sum.inr (z))) (dc_bk (d_X10_stuck_l202s x0 x1 x2 x3 x6 m))))) x0 x1 x2 x3 x5 m (fun _a _b => kR _a _b) N  x6 (0 : Int32) lv1 (hv.1 _ rfl) (hv.2.1 _ rfl) (hv.2.2.1 _ rfl) (hv.2.2.2.1 _ rfl) (hv.2.2.2.2.1 _ rfl) (hv.2.2.2.2.2.1 _ rfl) (hv.2.2.2.2.2.2.1 _ rfl))
    · refine dw_g rfl ?_
      refine dg_s (pc' := 213) [.int x5] rfl (fun _ => rfl) rfl ?_
      refine dg_s (pc' := 214) [.ref x0, .int x5] rfl (fun _ => rfl) rfl ?_
      refine dg_s (pc' := 217) [.ref (x0 + 20), .int x5] rfl (fun _ => rfl) rfl ?_
      refine dg_s (pc' := 219) [.int x7, .ref (x0 + 20), .int x5] rfl (fun _ => rfl) rfl ?_
      refine dg_s (pc' := 220) [.int (m.1 (x0 + 20) (Int32.toNatClampNeg x7)), .int x5] rfl (fun _ => rfl) rfl ?_
      refine dw_if (fun t => Φ (Option.bind t (dc_bk (d_X10_stuck_l202s x0 x1 x2 x3 x6 m)))) ((Int32.toInt (m.1 (x0 + 20) (Int32.toNatClampNeg x7))) = 0) [.int x5] 227 223 rfl (fun _ => rfl) (fun c1 => ?_) (fun c1 => ?_)
      · refine dw_g rfl ?_
        refine dg_s (pc' := 228) [.int (1 : Int32), .int x5] rfl (fun _ => rfl) rfl ?_
        refine dg_s (pc' := 229) [.int (x5 + (1 : Int32))] rfl (fun _ => rfl) rfl ?_
        refine dg_L (pc' := 231) [(5, .int (x5 + (1 : Int32))), (0, .ref x0), (1, .int x1), (2, .int x2), (3, .int x3), (6, .int x6), (7, .int x7)] [] rfl (fun _ => rfl) rfl ?_
        refine dg_L (pc' := 234) [(7, .int (x7 + (1 : Int32))), (5, .int (x5 + (1 : Int32))), (0, .ref x0), (1, .int x1), (2, .int x2), (3, .int x3), (6, .int x6)] [] rfl (fun _ => rfl) rfl ?_
        refine dw_s (pc' := 202) [] rfl (fun _ => rfl) ?_
        exact dw_j rfl (fun lv1 hv => ih (x5 + (1 : Int32)) (x7 + (1 : Int32)) lv1 (hv.1 _ rfl) (hv.2.1 _ rfl) (hv.2.2.1 _ rfl) (hv.2.2.2.1 _ rfl) (hv.2.2.2.2.1 _ rfl) (hv.2.2.2.2.2.1 _ rfl) (hv.2.2.2.2.2.2.1 _ rfl))
      · refine dw_g rfl ?_
        refine dg_s (pc' := 224) [.int (0 : Int32), .int x5] rfl (fun _ => rfl) rfl ?_
        refine dg_s (pc' := 228) [.int (0 : Int32), .int x5] rfl (fun _ => rfl) rfl ?_
        refine dg_s (pc' := 229) [.int (x5 + (0 : Int32))] rfl (fun _ => rfl) rfl ?_
        refine dg_L (pc' := 231) [(5, .int (x5 + (0 : Int32))), (0, .ref x0), (1, .int x1), (2, .int x2), (3, .int x3), (6, .int x6), (7, .int x7)] [] rfl (fun _ => rfl) rfl ?_
        refine dg_L (pc' := 234) [(7, .int (x7 + (1 : Int32))), (5, .int (x5 + (0 : Int32))), (0, .ref x0), (1, .int x1), (2, .int x2), (3, .int x3), (6, .int x6)] [] rfl (fun _ => rfl) rfl ?_
        refine dw_s (pc' := 202) [] rfl (fun _ => rfl) ?_
        exact dw_j rfl (fun lv1 hv => ih (x5 + (0 : Int32)) (x7 + (1 : Int32)) lv1 (hv.1 _ rfl) (hv.2.1 _ rfl) (hv.2.2.1 _ rfl) (hv.2.2.2.1 _ rfl) (hv.2.2.2.2.1 _ rfl) (hv.2.2.2.2.2.1 _ rfl) (hv.2.2.2.2.2.2.1 _ rfl))
noncomputable def d_X10_stuck_l116b (x0 : Nat) (x1 : Int32) (x2 : Int32) (x3 : Int32) (x5 : Int32) (x4 : Int32) (x6 : Int32) (m : dc_M) : Option ((Int32 × Int32 × dc_M) ⊕ ((Int32 × Int32 × dc_M) ⊕ ((Int32 × dc_M) ⊕ (Int32 × dc_M)))) :=
  (if (Int32.toInt (m.1 x0 3)) ≤ (Int32.toInt x6) then some (Sum.inr (Sum.inl (x4, (x5 + (1 : Int32)), m))) else (if ¬ (Int32.toInt (m.1 (x0 + 20) (Int32.toNatClampNeg x5))) = 0 then some (Sum.inr (Sum.inl (x4, (x5 + (1 : Int32)), m))) else (if (Int32.toInt (m.1 (x0 + 18) (Int32.toNatClampNeg (((16 : Int32) * x5) + x6)))) = (-4) then some (Sum.inl (x4, (x6 + (1 : Int32)), m)) else (if (Int32.toInt (m.1 (x0 + 20) (Int32.toNatClampNeg (m.1 (x0 + 18) (Int32.toNatClampNeg (((16 : Int32) * x5) + x6)))))) = 0 then some (Sum.inl (x4, (x6 + (1 : Int32)), m)) else some (Sum.inl ((1 : Int32), (x6 + (1 : Int32)), (dc_wi m (x0 + 20) (Int32.toNatClampNeg x5) (dc_nar (m.2.2.2 (x0 + 20)).1 (1 : Int32)))))))))
noncomputable def d_X10_stuck_l116s (x0 : Nat) (x1 : Int32) (x2 : Int32) (x3 : Int32) (x5 : Int32) : (Int32 × Int32 × dc_M) → Option ((Int32 × Int32 × dc_M) ⊕ ((Int32 × Int32 × dc_M) ⊕ ((Int32 × dc_M) ⊕ (Int32 × dc_M)))) := fun s => d_X10_stuck_l116b x0 x1 x2 x3 x5 s.1 s.2.1 s.2.2
noncomputable def d_X10_stuck_l116 (x0 : Nat) (x1 : Int32) (x2 : Int32) (x3 : Int32) (x5 : Int32) (x4 : Int32) (x6 : Int32) (m : dc_M) : Option ((Int32 × Int32 × dc_M) ⊕ ((Int32 × dc_M) ⊕ (Int32 × dc_M))) := dc_lp (d_X10_stuck_l116s x0 x1 x2 x3 x5) (x4, x6, m)
set_option maxHeartbeats 8000000 in
theorem k_X10_stuck_l116 {u : Nat} {Φ : (Option ((Int32 × Int32 × dc_M) ⊕ ((Int32 × dc_M) ⊕ (Int32 × dc_M)))) → Option Value → dc_M → Prop} (x0 : Nat) (x1 : Int32) (x2 : Int32) (x3 : Int32) (x5 : Int32) (kR : ∀ (v : Int32) (m : dc_M), Φ (some (Sum.inr (Sum.inr ((v, m))))) (some (.int v)) m) : ∀ (N : Nat), (∀ (x4 : Int32) (x5 : Int32) (m : dc_M) (lv : ab_L), ab_lk lv 0 = some (.ref x0) → ab_lk lv 1 = some (.int x1) → ab_lk lv 2 = some (.int x2) → ab_lk lv 3 = some (.int x3) → ab_lk lv 4 = some (.int x4) → ab_lk lv 5 = some (.int x5) →  dc_pv u N ab_M_X10_stuck 104 lv [] m (Φ (some (Sum.inl (x4, x5, m))))) → (∀ (x4 : Int32) (m : dc_M) (lv : ab_L), ab_lk lv 0 = some (.ref x0) → ab_lk lv 1 = some (.int x1) → ab_lk lv 2 = some (.int x2) → ab_lk lv 3 = some (.int x3) → ab_lk lv 4 = some (.int x4) →  dc_pv u N ab_M_X10_stuck 93 lv [] m (Φ (some (Sum.inr (Sum.inl (x4, m)))))) → ∀ (x4 : Int32) (x6 : Int32) (m : dc_M) (lv : ab_L), ab_lk lv 0 = some (.ref x0) → ab_lk lv 1 = some (.int x1) → ab_lk lv 2 = some (.int x2) → ab_lk lv 3 = some (.int x3) → ab_lk lv 4 = some (.int x4) → ab_lk lv 5 = some (.int x5) → ab_lk lv 6 = some (.int x6) → dc_pv u N ab_M_X10_stuck 116 lv [] m (Φ (d_X10_stuck_l116 x0 x1 x2 x3 x5 x4 x6 m)) := by
  intro N
  induction N with
  | zero => intros; exact dc_pv_zero
  | succ N ih =>
    intro k104 k93 x4 x6 m lv f0 f1 f2 f3 f4 f5 f6
    have k104 := fun a0 a1 a2 a3 a4 a5 a6 a7 a8 a9 => (k104 a0 a1 a2 a3 a4 a5 a6 a7 a8 a9).mono (Nat.le_succ N)
    have k93 := fun a0 a1 a2 a3 a4 a5 a6 a7 => (k93 a0 a1 a2 a3 a4 a5 a6 a7).mono (Nat.le_succ N)
    have ih := ih k104 k93
    refine dc_ok (C := C_X10_stuck) (S := S_X10_stuck) CO_X10_stuck 400 116 [(0, .ref x0), (1, .int x1), (2, .int x2), (3, .int x3), (4, .int x4), (5, .int x5), (6, .int x6)] lv [] m (dc_sub_cons f0 (dc_sub_cons f1 (dc_sub_cons f2 (dc_sub_cons f3 (dc_sub_cons f4 (dc_sub_cons f5 (dc_sub_cons f6 (dc_sub_nil)))))))) ?_
    unfold d_X10_stuck_l116
    rw [dc_lp_eq]
    show (fun t x => dc_lf u N ab_M_X10_stuck (Φ (Option.bind t (dc_bk (d_X10_stuck_l116s x0 x1 x2 x3 x5)))) x) (d_X10_stuck_l116b x0 x1 x2 x3 x5 x4 x6 m) _
    dsimp only
    unfold d_X10_stuck_l116b
    refine dg_s (pc' := 118) [.int x6] rfl (fun _ => rfl) rfl ?_
    refine dg_s (pc' := 119) [.ref x0, .int x6] rfl (fun _ => rfl) rfl ?_
    refine dg_s (pc' := 122) [.int (m.1 x0 3), .int x6] rfl (fun _ => rfl) rfl ?_
    refine dw_if (fun t => Φ (Option.bind t (dc_bk (d_X10_stuck_l116s x0 x1 x2 x3 x5)))) ((Int32.toInt (m.1 x0 3)) ≤ (Int32.toInt x6)) [] 184 125 rfl (fun _ => rfl) (fun c0 => ?_) (fun c0 => ?_)
    · refine dw_g rfl ?_
      refine dg_L (pc' := 187) [(5, .int (x5 + (1 : Int32))), (0, .ref x0), (1, .int x1), (2, .int x2), (3, .int x3), (4, .int x4), (6, .int x6)] [] rfl (fun _ => rfl) rfl ?_
      refine dw_s (pc' := 104) [] rfl (fun _ => rfl) ?_
      exact dw_j rfl (fun lv1 hv => k104 x4 (x5 + (1 : Int32)) m lv1 (hv.1 _ rfl) (hv.2.1 _ rfl) (hv.2.2.1 _ rfl) (hv.2.2.2.1 _ rfl) (hv.2.2.2.2.1 _ rfl) (hv.2.2.2.2.2.1 _ rfl))
    · refine dw_g rfl ?_
      refine dg_s (pc' := 126) [.ref x0] rfl (fun _ => rfl) rfl ?_
      refine dg_s (pc' := 129) [.ref (x0 + 20)] rfl (fun _ => rfl) rfl ?_
      refine dg_s (pc' := 131) [.int x5, .ref (x0 + 20)] rfl (fun _ => rfl) rfl ?_
      refine dg_s (pc' := 132) [.int (m.1 (x0 + 20) (Int32.toNatClampNeg x5))] rfl (fun _ => rfl) rfl ?_
      refine dw_if (fun t => Φ (Option.bind t (dc_bk (d_X10_stuck_l116s x0 x1 x2 x3 x5)))) (¬ (Int32.toInt (m.1 (x0 + 20) (Int32.toNatClampNeg x5))) = 0) [] 184 135 rfl (fun _ => rfl) (fun c1 => ?_) (fun c1 => ?_)
      · refine dw_g rfl ?_
        refine dg_L (pc' := 187) [(5, .int (x5 + (1 : Int32))), (0, .ref x0), (1, .int x1), (2, .int x2), (3, .int x3), (4, .int x4), (6, .int x6)] [] rfl (fun _ => rfl) rfl ?_
        refine dw_s (pc' := 104) [] rfl (fun _ => rfl) ?_
        exact dw_j rfl (fun lv1 hv => k104 x4 (x5 + (1 : Int32)) m lv1 (hv.1 _ rfl) (hv.2.1 _ rfl) (hv.2.2.1 _ rfl) (hv.2.2.2.1 _ rfl) (hv.2.2.2.2.1 _ rfl) (hv.2.2.2.2.2.1 _ rfl))
      · refine dw_g rfl ?_
        refine dg_s (pc' := 136) [.ref x0] rfl (fun _ => rfl) rfl ?_
        refine dg_s (pc' := 139) [.ref (x0 + 18)] rfl (fun _ => rfl) rfl ?_
        refine dg_s (pc' := 141) [.int (16 : Int32), .ref (x0 + 18)] rfl (fun _ => rfl) rfl ?_
        refine dg_s (pc' := 143) [.int x5, .int (16 : Int32), .ref (x0 + 18)] rfl (fun _ => rfl) rfl ?_
        refine dg_s (pc' := 144) [.int ((16 : Int32) * x5), .ref (x0 + 18)] rfl (fun _ => rfl) rfl ?_
        refine dg_s (pc' := 146) [.int x6, .int ((16 : Int32) * x5), .ref (x0 + 18)] rfl (fun _ => rfl) rfl ?_
        refine dg_s (pc' := 147) [.int (((16 : Int32) * x5) + x6), .ref (x0 + 18)] rfl (fun _ => rfl) rfl ?_
        refine dg_s (pc' := 148) [.int (m.1 (x0 + 18) (Int32.toNatClampNeg (((16 : Int32) * x5) + x6)))] rfl (fun _ => rfl) rfl ?_
        refine dg_L (pc' := 150) [(7, .int (m.1 (x0 + 18) (Int32.toNatClampNeg (((16 : Int32) * x5) + x6)))), (0, .ref x0), (1, .int x1), (2, .int x2), (3, .int x3), (4, .int x4), (5, .int x5), (6, .int x6)] [] rfl (fun _ => rfl) rfl ?_
        refine dg_s (pc' := 152) [.int (m.1 (x0 + 18) (Int32.toNatClampNeg (((16 : Int32) * x5) + x6)))] rfl (fun _ => rfl) rfl ?_
        refine dg_s (pc' := 154) [.int (-4 : Int32), .int (m.1 (x0 + 18) (Int32.toNatClampNeg (((16 : Int32) * x5) + x6)))] rfl (fun _ => rfl) rfl ?_
        refine dw_if (fun t => Φ (Option.bind t (dc_bk (d_X10_stuck_l116s x0 x1 x2 x3 x5)))) ((Int32.toInt (m.1 (x0 + 18) (Int32.toNatClampNeg (((16 : Int32) * x5) + x6)))) = (-4)) [] 178 157 rfl (fun _ => rfl) (fun c2 => ?_) (fun c2 => ?_)
        · refine dw_g rfl ?_
          refine dg_L (pc' := 181) [(6, .int (x6 + (1 : Int32))), (7, .int (m.1 (x0 + 18) (Int32.toNatClampNeg (((16 : Int32) * x5) + x6)))), (0, .ref x0), (1, .int x1), (2, .int x2), (3, .int x3), (4, .int x4), (5, .int x5)] [] rfl (fun _ => rfl) rfl ?_
          refine dw_s (pc' := 116) [] rfl (fun _ => rfl) ?_
          exact dw_j rfl (fun lv1 hv => ih x4 (x6 + (1 : Int32)) m lv1 (hv.1 _ rfl) (hv.2.1 _ rfl) (hv.2.2.1 _ rfl) (hv.2.2.2.1 _ rfl) (hv.2.2.2.2.1 _ rfl) (hv.2.2.2.2.2.1 _ rfl) (hv.2.2.2.2.2.2.1 _ rfl))
        · refine dw_g rfl ?_
          refine dg_s (pc' := 158) [.ref x0] rfl (fun _ => rfl) rfl ?_
          refine dg_s (pc' := 161) [.ref (x0 + 20)] rfl (fun _ => rfl) rfl ?_
          refine dg_s (pc' := 163) [.int (m.1 (x0 + 18) (Int32.toNatClampNeg (((16 : Int32) * x5) + x6))), .ref (x0 + 20)] rfl (fun _ => rfl) rfl ?_
          refine dg_s (pc' := 164) [.int (m.1 (x0 + 20) (Int32.toNatClampNeg (m.1 (x0 + 18) (Int32.toNatClampNeg (((16 : Int32) * x5) + x6)))))] rfl (fun _ => rfl) rfl ?_
          refine dw_if (fun t => Φ (Option.bind t (dc_bk (d_X10_stuck_l116s x0 x1 x2 x3 x5)))) ((Int32.toInt (m.1 (x0 + 20) (Int32.toNatClampNeg (m.1 (x0 + 18) (Int32.toNatClampNeg (((16 : Int32) * x5) + x6)))))) = 0) [] 178 167 rfl (fun _ => rfl) (fun c3 => ?_) (fun c3 => ?_)
          · refine dw_g rfl ?_
            refine dg_L (pc' := 181) [(6, .int (x6 + (1 : Int32))), (7, .int (m.1 (x0 + 18) (Int32.toNatClampNeg (((16 : Int32) * x5) + x6)))), (0, .ref x0), (1, .int x1), (2, .int x2), (3, .int x3), (4, .int x4), (5, .int x5)] [] rfl (fun _ => rfl) rfl ?_
            refine dw_s (pc' := 116) [] rfl (fun _ => rfl) ?_
            exact dw_j rfl (fun lv1 hv => ih x4 (x6 + (1 : Int32)) m lv1 (hv.1 _ rfl) (hv.2.1 _ rfl) (hv.2.2.1 _ rfl) (hv.2.2.2.1 _ rfl) (hv.2.2.2.2.1 _ rfl) (hv.2.2.2.2.2.1 _ rfl) (hv.2.2.2.2.2.2.1 _ rfl))
          · refine dw_g rfl ?_
            refine dg_s (pc' := 168) [.ref x0] rfl (fun _ => rfl) rfl ?_
            refine dg_s (pc' := 171) [.ref (x0 + 20)] rfl (fun _ => rfl) rfl ?_
            refine dg_s (pc' := 173) [.int x5, .ref (x0 + 20)] rfl (fun _ => rfl) rfl ?_
            refine dg_s (pc' := 174) [.int (1 : Int32), .int x5, .ref (x0 + 20)] rfl (fun _ => rfl) rfl ?_
            refine dg_m (pc' := 175) (dc_wi m (x0 + 20) (Int32.toNatClampNeg x5) (dc_nar (m.2.2.2 (x0 + 20)).1 (1 : Int32))) [] rfl (fun _ => rfl) rfl ?_
            refine dg_s (pc' := 176) [.int (1 : Int32)] rfl (fun _ => rfl) rfl ?_
            refine dg_L (pc' := 178) [(4, .int (1 : Int32)), (7, .int (m.1 (x0 + 18) (Int32.toNatClampNeg (((16 : Int32) * x5) + x6)))), (0, .ref x0), (1, .int x1), (2, .int x2), (3, .int x3), (5, .int x5), (6, .int x6)] [] rfl (fun _ => rfl) rfl ?_
            refine dg_L (pc' := 181) [(6, .int (x6 + (1 : Int32))), (4, .int (1 : Int32)), (7, .int (m.1 (x0 + 18) (Int32.toNatClampNeg (((16 : Int32) * x5) + x6)))), (0, .ref x0), (1, .int x1), (2, .int x2), (3, .int x3), (5, .int x5)] [] rfl (fun _ => rfl) rfl ?_
            refine dw_s (pc' := 116) [] rfl (fun _ => rfl) ?_
            exact dw_j rfl (fun lv1 hv => ih (1 : Int32) (x6 + (1 : Int32)) (dc_wi m (x0 + 20) (Int32.toNatClampNeg x5) (dc_nar (m.2.2.2 (x0 + 20)).1 (1 : Int32))) lv1 (hv.1 _ rfl) (hv.2.1 _ rfl) (hv.2.2.1 _ rfl) (hv.2.2.2.1 _ rfl) (hv.2.2.2.2.1 _ rfl) (hv.2.2.2.2.2.1 _ rfl) (hv.2.2.2.2.2.2.1 _ rfl))
noncomputable def d_X10_stuck_l104b (x0 : Nat) (x1 : Int32) (x2 : Int32) (x3 : Int32) (x4 : Int32) (x5 : Int32) (m : dc_M) : Option ((Int32 × Int32 × dc_M) ⊕ ((Int32 × dc_M) ⊕ (Int32 × dc_M))) :=
  (if (Int32.toInt (m.1 x0 32)) ≤ (Int32.toInt x5) then some (Sum.inr (Sum.inl (x4, m))) else (d_X10_stuck_l116 x0 x1 x2 x3 x5 x4 (0 : Int32) m))
noncomputable def d_X10_stuck_l104s (x0 : Nat) (x1 : Int32) (x2 : Int32) (x3 : Int32) : (Int32 × Int32 × dc_M) → Option ((Int32 × Int32 × dc_M) ⊕ ((Int32 × dc_M) ⊕ (Int32 × dc_M))) := fun s => d_X10_stuck_l104b x0 x1 x2 x3 s.1 s.2.1 s.2.2
noncomputable def d_X10_stuck_l104 (x0 : Nat) (x1 : Int32) (x2 : Int32) (x3 : Int32) (x4 : Int32) (x5 : Int32) (m : dc_M) : Option ((Int32 × dc_M) ⊕ (Int32 × dc_M)) := dc_lp (d_X10_stuck_l104s x0 x1 x2 x3) (x4, x5, m)
set_option maxHeartbeats 8000000 in
theorem k_X10_stuck_l104 {u : Nat} {Φ : (Option ((Int32 × dc_M) ⊕ (Int32 × dc_M))) → Option Value → dc_M → Prop} (x0 : Nat) (x1 : Int32) (x2 : Int32) (x3 : Int32) (kR : ∀ (v : Int32) (m : dc_M), Φ (some (Sum.inr ((v, m)))) (some (.int v)) m) : ∀ (N : Nat), (∀ (x4 : Int32) (m : dc_M) (lv : ab_L), ab_lk lv 0 = some (.ref x0) → ab_lk lv 1 = some (.int x1) → ab_lk lv 2 = some (.int x2) → ab_lk lv 3 = some (.int x3) → ab_lk lv 4 = some (.int x4) →  dc_pv u N ab_M_X10_stuck 93 lv [] m (Φ (some (Sum.inl (x4, m))))) → ∀ (x4 : Int32) (x5 : Int32) (m : dc_M) (lv : ab_L), ab_lk lv 0 = some (.ref x0) → ab_lk lv 1 = some (.int x1) → ab_lk lv 2 = some (.int x2) → ab_lk lv 3 = some (.int x3) → ab_lk lv 4 = some (.int x4) → ab_lk lv 5 = some (.int x5) → dc_pv u N ab_M_X10_stuck 104 lv [] m (Φ (d_X10_stuck_l104 x0 x1 x2 x3 x4 x5 m)) := by
  intro N
  induction N with
  | zero => intros; exact dc_pv_zero
  | succ N ih =>
    intro k93 x4 x5 m lv f0 f1 f2 f3 f4 f5
    have k93 := fun a0 a1 a2 a3 a4 a5 a6 a7 => (k93 a0 a1 a2 a3 a4 a5 a6 a7).mono (Nat.le_succ N)
    have ih := ih k93
    refine dc_ok (C := C_X10_stuck) (S := S_X10_stuck) CO_X10_stuck 400 104 [(0, .ref x0), (1, .int x1), (2, .int x2), (3, .int x3), (4, .int x4), (5, .int x5)] lv [] m (dc_sub_cons f0 (dc_sub_cons f1 (dc_sub_cons f2 (dc_sub_cons f3 (dc_sub_cons f4 (dc_sub_cons f5 (dc_sub_nil))))))) ?_
    unfold d_X10_stuck_l104
    rw [dc_lp_eq]
    show (fun t x => dc_lf u N ab_M_X10_stuck (Φ (Option.bind t (dc_bk (d_X10_stuck_l104s x0 x1 x2 x3)))) x) (d_X10_stuck_l104b x0 x1 x2 x3 x4 x5 m) _
    dsimp only
    unfold d_X10_stuck_l104b
    refine dg_s (pc' := 106) [.int x5] rfl (fun _ => rfl) rfl ?_
    refine dg_s (pc' := 107) [.ref x0, .int x5] rfl (fun _ => rfl) rfl ?_
    refine dg_s (pc' := 110) [.int (m.1 x0 32), .int x5] rfl (fun _ => rfl) rfl ?_
    refine dw_if (fun t => Φ (Option.bind t (dc_bk (d_X10_stuck_l104s x0 x1 x2 x3)))) ((Int32.toInt (m.1 x0 32)) ≤ (Int32.toInt x5)) [] 190 113 rfl (fun _ => rfl) (fun c0 => ?_) (fun c0 => ?_)
    · refine dw_g rfl ?_
      refine dw_s (pc' := 93) [] rfl (fun _ => rfl) ?_
      exact dw_j rfl (fun lv1 hv => k93 x4 m lv1 (hv.1 _ rfl) (hv.2.1 _ rfl) (hv.2.2.1 _ rfl) (hv.2.2.2.1 _ rfl) (hv.2.2.2.2.1 _ rfl))
    · refine dw_g rfl ?_
      refine dg_s (pc' := 114) [.int (0 : Int32)] rfl (fun _ => rfl) rfl ?_
      refine dw_L (pc' := 116) [(6, .int (0 : Int32)), (0, .ref x0), (1, .int x1), (2, .int x2), (3, .int x3), (4, .int x4), (5, .int x5)] [] rfl (fun _ => rfl) ?_
      exact dw_j rfl (fun lv1 hv => k_X10_stuck_l116 (Φ := (fun t => Φ (Option.bind t (dc_bk (d_X10_stuck_l104s x0 x1 x2 x3))))) x0 x1 x2 x3 x5 (fun _a _b => kR _a _b) N ih k93 x4 (0 : Int32) m lv1 (hv.1 _ rfl) (hv.2.1 _ rfl) (hv.2.2.1 _ rfl) (hv.2.2.2.1 _ rfl) (hv.2.2.2.2.1 _ rfl) (hv.2.2.2.2.2.1 _ rfl) (hv.2.2.2.2.2.2.1 _ rfl))
noncomputable def d_X10_stuck_l93b (x0 : Nat) (x1 : Int32) (x2 : Int32) (x3 : Int32) (x4 : Int32) (m : dc_M) : Option ((Int32 × dc_M) ⊕ (Int32 × dc_M)) :=
  (if (Int32.toInt x4) = 0 then ((d_X10_stuck_l202 x0 x1 x2 x3 (0 : Int32) (0 : Int32) (0 : Int32) m).map (fun z => Sum.inr (z))) else (d_X10_stuck_l104 x0 x1 x2 x3 (0 : Int32) (0 : Int32) m))
noncomputable def d_X10_stuck_l93s (x0 : Nat) (x1 : Int32) (x2 : Int32) (x3 : Int32) : (Int32 × dc_M) → Option ((Int32 × dc_M) ⊕ (Int32 × dc_M)) := fun s => d_X10_stuck_l93b x0 x1 x2 x3 s.1 s.2
noncomputable def d_X10_stuck_l93 (x0 : Nat) (x1 : Int32) (x2 : Int32) (x3 : Int32) (x4 : Int32) (m : dc_M) : Option (Int32 × dc_M) := dc_lp (d_X10_stuck_l93s x0 x1 x2 x3) (x4, m)
set_option maxHeartbeats 8000000 in
theorem k_X10_stuck_l93 {u : Nat} {Φ : (Option (Int32 × dc_M)) → Option Value → dc_M → Prop} (x0 : Nat) (x1 : Int32) (x2 : Int32) (x3 : Int32) (kR : ∀ (v : Int32) (m : dc_M), Φ (some ((v, m))) (some (.int v)) m) : ∀ (N : Nat), ∀ (x4 : Int32) (m : dc_M) (lv : ab_L), ab_lk lv 0 = some (.ref x0) → ab_lk lv 1 = some (.int x1) → ab_lk lv 2 = some (.int x2) → ab_lk lv 3 = some (.int x3) → ab_lk lv 4 = some (.int x4) → dc_pv u N ab_M_X10_stuck 93 lv [] m (Φ (d_X10_stuck_l93 x0 x1 x2 x3 x4 m)) := by
  intro N
  induction N with
  | zero => intros; exact dc_pv_zero
  | succ N ih =>
    intro x4 m lv f0 f1 f2 f3 f4
    refine dc_ok (C := C_X10_stuck) (S := S_X10_stuck) CO_X10_stuck 400 93 [(0, .ref x0), (1, .int x1), (2, .int x2), (3, .int x3), (4, .int x4)] lv [] m (dc_sub_cons f0 (dc_sub_cons f1 (dc_sub_cons f2 (dc_sub_cons f3 (dc_sub_cons f4 (dc_sub_nil)))))) ?_
    unfold d_X10_stuck_l93
    rw [dc_lp_eq]
    show (fun t x => dc_lf u N ab_M_X10_stuck (Φ (Option.bind t (dc_bk (d_X10_stuck_l93s x0 x1 x2 x3)))) x) (d_X10_stuck_l93b x0 x1 x2 x3 x4 m) _
    dsimp only
    unfold d_X10_stuck_l93b
    refine dg_s (pc' := 95) [.int x4] rfl (fun _ => rfl) rfl ?_
    refine dw_if (fun t => Φ (Option.bind t (dc_bk (d_X10_stuck_l93s x0 x1 x2 x3)))) ((Int32.toInt x4) = 0) [] 193 98 rfl (fun _ => rfl) (fun c0 => ?_) (fun c0 => ?_)
    · refine dw_g rfl ?_
      refine dg_s (pc' := 194) [.int (0 : Int32)] rfl (fun _ => rfl) rfl ?_
      refine dg_L (pc' := 196) [(5, .int (0 : Int32)), (0, .ref x0), (1, .int x1), (2, .int x2), (3, .int x3), (4, .int x4)] [] rfl (fun _ => rfl) rfl ?_
      refine dg_s (pc' := 197) [.int (0 : Int32)] rfl (fun _ => rfl) rfl ?_
      refine dg_L (pc' := 199) [(6, .int (0 : Int32)), (5, .int (0 : Int32)), (0, .ref x0), (1, .int x1), (2, .int x2), (3, .int x3), (4, .int x4)] [] rfl (fun _ => rfl) rfl ?_
      refine dg_s (pc' := 200) [.int (0 : Int32)] rfl (fun _ => rfl) rfl ?_
      refine dw_L (pc' := 202) [(7, .int (0 : Int32)), (6, .int (0 : Int32)), (5, .int (0 : Int32)), (0, .ref x0), (1, .int x1), (2, .int x2), (3, .int x3), (4, .int x4)] [] rfl (fun _ => rfl) ?_
      exact dw_j rfl (fun lv1 hv => k_X10_stuck_l202 (Φ := (fun t => Φ (Option.bind (t.map (fun z => Sum.inr (z))) (dc_bk (d_X10_stuck_l93s x0 x1 x2 x3))))) x0 x1 x2 x3 (0 : Int32) m (fun _a _b => kR _a _b) N  (0 : Int32) (0 : Int32) lv1 (hv.1 _ rfl) (hv.2.1 _ rfl) (hv.2.2.1 _ rfl) (hv.2.2.2.1 _ rfl) (hv.2.2.2.2.1 _ rfl) (hv.2.2.2.2.2.1 _ rfl) (hv.2.2.2.2.2.2.1 _ rfl))
    · refine dw_g rfl ?_
      refine dg_s (pc' := 99) [.int (0 : Int32)] rfl (fun _ => rfl) rfl ?_
      refine dg_L (pc' := 101) [(4, .int (0 : Int32)), (0, .ref x0), (1, .int x1), (2, .int x2), (3, .int x3)] [] rfl (fun _ => rfl) rfl ?_
      refine dg_s (pc' := 102) [.int (0 : Int32)] rfl (fun _ => rfl) rfl ?_
      refine dw_L (pc' := 104) [(5, .int (0 : Int32)), (4, .int (0 : Int32)), (0, .ref x0), (1, .int x1), (2, .int x2), (3, .int x3)] [] rfl (fun _ => rfl) ?_
      exact dw_j rfl (fun lv1 hv => k_X10_stuck_l104 (Φ := (fun t => Φ (Option.bind t (dc_bk (d_X10_stuck_l93s x0 x1 x2 x3))))) x0 x1 x2 x3 (fun _a _b => kR _a _b) N ih (0 : Int32) (0 : Int32) m lv1 (hv.1 _ rfl) (hv.2.1 _ rfl) (hv.2.2.1 _ rfl) (hv.2.2.2.1 _ rfl) (hv.2.2.2.2.1 _ rfl) (hv.2.2.2.2.2.1 _ rfl))
noncomputable def d_X10_stuck_b56 (x0 : Nat) (x1 : Int32) (x3 : Int32) (x4 : Int32) (s0 : Int32) (s1 : Int32) (m : dc_M) : Option ((Int32 × Int32 × Int32 × dc_M) ⊕ (Int32 × dc_M)) :=
  ((d_X10_readyIn x0 x4 m).bind (fun q1 => (if ¬ (Int32.toInt x4) = 0 then some (Sum.inl ((s1 + s0), (x3 ||| q1), (x4 + (1 : Int32)), (dc_wi m (x0 + 20) (Int32.toNatClampNeg x4) (dc_nar (m.2.2.2 (x0 + 20)).1 (0 : Int32))))) else some (Sum.inl ((s1 + s0), (x3 ||| q1), (x4 + (1 : Int32)), (dc_wi m (x0 + 20) (Int32.toNatClampNeg x4) (dc_nar (m.2.2.2 (x0 + 20)).1 (1 : Int32))))))))
set_option maxHeartbeats 8000000 in
theorem k_X10_stuck_b56 {u : Nat} {N : Nat} {Φ : (Option ((Int32 × Int32 × Int32 × dc_M) ⊕ (Int32 × dc_M))) → Option Value → dc_M → Prop} (x0 : Nat) (x1 : Int32) (x3 : Int32) (x4 : Int32) (s0 : Int32) (s1 : Int32) (m : dc_M) (kR : ∀ (v : Int32) (m : dc_M), Φ (some (Sum.inr ((v, m)))) (some (.int v)) m) (k32 : ∀ (x2 : Int32) (x3 : Int32) (x4 : Int32) (m : dc_M) (lv : ab_L), ab_lk lv 0 = some (.ref x0) → ab_lk lv 1 = some (.int x1) → ab_lk lv 2 = some (.int x2) → ab_lk lv 3 = some (.int x3) → ab_lk lv 4 = some (.int x4) →  dc_pv u N ab_M_X10_stuck 32 lv [] m (Φ (some (Sum.inl (x2, x3, x4, m))))) {lv : ab_L} (f0 : ab_lk lv 0 = some (.ref x0)) (f1 : ab_lk lv 1 = some (.int x1)) (f3 : ab_lk lv 3 = some (.int x3)) (f4 : ab_lk lv 4 = some (.int x4)) : dc_pv u N ab_M_X10_stuck 56 lv [.int s0, .int s1] m (Φ (d_X10_stuck_b56 x0 x1 x3 x4 s0 s1 m)) := by
  refine dc_pv.mono (dc_ok (C := C_X10_stuck) (S := S_X10_stuck) CO_X10_stuck 400 56 [(0, .ref x0), (1, .int x1), (3, .int x3), (4, .int x4)] lv [.int s0, .int s1] m (dc_sub_cons f0 (dc_sub_cons f1 (dc_sub_cons f3 (dc_sub_cons f4 (dc_sub_nil))))) ?_) (Nat.le_succ N)
  unfold d_X10_stuck_b56
  refine dg_s (pc' := 57) [.int (s1 + s0)] rfl (fun _ => rfl) rfl ?_
  refine dg_L (pc' := 58) [(2, .int (s1 + s0)), (0, .ref x0), (1, .int x1), (3, .int x3), (4, .int x4)] [] rfl (fun _ => rfl) rfl ?_
  refine dg_s (pc' := 59) [.int x3] rfl (fun _ => rfl) rfl ?_
  refine dg_s (pc' := 60) [.ref x0, .int x3] rfl (fun _ => rfl) rfl ?_
  refine dg_s (pc' := 62) [.int x4, .ref x0, .int x3] rfl (fun _ => rfl) rfl ?_
  refine dw_b (fun t => Φ t) (pc' := 65) (fun q1 => [.int q1, .int x3]) (fun q1 => m) rfl (fun _ => rfl) (fun q1 => ?_)
  refine dw_g rfl ?_
  refine dg_s (pc' := 66) [.int (x3 ||| q1)] rfl (fun _ => rfl) rfl ?_
  refine dg_L (pc' := 67) [(3, .int (x3 ||| q1)), (2, .int (s1 + s0)), (0, .ref x0), (1, .int x1), (4, .int x4)] [] rfl (fun _ => rfl) rfl ?_
  refine dg_s (pc' := 68) [.ref x0] rfl (fun _ => rfl) rfl ?_
  refine dg_s (pc' := 71) [.ref (x0 + 20)] rfl (fun _ => rfl) rfl ?_
  refine dg_s (pc' := 73) [.int x4, .ref (x0 + 20)] rfl (fun _ => rfl) rfl ?_
  refine dg_s (pc' := 75) [.int x4, .int x4, .ref (x0 + 20)] rfl (fun _ => rfl) rfl ?_
  refine dw_if (fun t => Φ t) (¬ (Int32.toInt x4) = 0) [.int x4, .ref (x0 + 20)] 82 78 rfl (fun _ => rfl) (fun c0 => ?_) (fun c0 => ?_)
  · refine dw_g rfl ?_
    refine dg_s (pc' := 83) [.int (0 : Int32), .int x4, .ref (x0 + 20)] rfl (fun _ => rfl) rfl ?_
    refine dg_m (pc' := 84) (dc_wi m (x0 + 20) (Int32.toNatClampNeg x4) (dc_nar (m.2.2.2 (x0 + 20)).1 (0 : Int32))) [] rfl (fun _ => rfl) rfl ?_
    refine dg_L (pc' := 87) [(4, .int (x4 + (1 : Int32))), (3, .int (x3 ||| q1)), (2, .int (s1 + s0)), (0, .ref x0), (1, .int x1)] [] rfl (fun _ => rfl) rfl ?_
    refine dw_s (pc' := 32) [] rfl (fun _ => rfl) ?_
    exact dw_j rfl (fun lv1 hv => k32 (s1 + s0) (x3 ||| q1) (x4 + (1 : Int32)) (dc_wi m (x0 + 20) (Int32.toNatClampNeg x4) (dc_nar (m.2.2.2 (x0 + 20)).1 (0 : Int32))) lv1 (hv.1 _ rfl) (hv.2.1 _ rfl) (hv.2.2.1 _ rfl) (hv.2.2.2.1 _ rfl) (hv.2.2.2.2.1 _ rfl))
  · refine dw_g rfl ?_
    refine dg_s (pc' := 79) [.int (1 : Int32), .int x4, .ref (x0 + 20)] rfl (fun _ => rfl) rfl ?_
    refine dg_s (pc' := 83) [.int (1 : Int32), .int x4, .ref (x0 + 20)] rfl (fun _ => rfl) rfl ?_
    refine dg_m (pc' := 84) (dc_wi m (x0 + 20) (Int32.toNatClampNeg x4) (dc_nar (m.2.2.2 (x0 + 20)).1 (1 : Int32))) [] rfl (fun _ => rfl) rfl ?_
    refine dg_L (pc' := 87) [(4, .int (x4 + (1 : Int32))), (3, .int (x3 ||| q1)), (2, .int (s1 + s0)), (0, .ref x0), (1, .int x1)] [] rfl (fun _ => rfl) rfl ?_
    refine dw_s (pc' := 32) [] rfl (fun _ => rfl) ?_
    exact dw_j rfl (fun lv1 hv => k32 (s1 + s0) (x3 ||| q1) (x4 + (1 : Int32)) (dc_wi m (x0 + 20) (Int32.toNatClampNeg x4) (dc_nar (m.2.2.2 (x0 + 20)).1 (1 : Int32))) lv1 (hv.1 _ rfl) (hv.2.1 _ rfl) (hv.2.2.1 _ rfl) (hv.2.2.2.1 _ rfl) (hv.2.2.2.2.1 _ rfl))
noncomputable def d_X10_stuck_l32b (x0 : Nat) (x1 : Int32) (x2 : Int32) (x3 : Int32) (x4 : Int32) (m : dc_M) : Option ((Int32 × Int32 × Int32 × dc_M) ⊕ (Int32 × dc_M)) :=
  (if (Int32.toInt (m.1 x0 32)) ≤ (Int32.toInt x4) then ((d_X10_stuck_l93 x0 x1 x2 x3 (1 : Int32) m).map (fun z => Sum.inr (z))) else ((d_X10_readyIn x0 x4 m).bind (fun q1 => (if ¬ (Int32.toInt q1) = 0 then (d_X10_stuck_b56 x0 x1 x3 x4 (0 : Int32) x2 m) else (d_X10_stuck_b56 x0 x1 x3 x4 (1 : Int32) x2 m)))))
noncomputable def d_X10_stuck_l32s (x0 : Nat) (x1 : Int32) : (Int32 × Int32 × Int32 × dc_M) → Option ((Int32 × Int32 × Int32 × dc_M) ⊕ (Int32 × dc_M)) := fun s => d_X10_stuck_l32b x0 x1 s.1 s.2.1 s.2.2.1 s.2.2.2
noncomputable def d_X10_stuck_l32 (x0 : Nat) (x1 : Int32) (x2 : Int32) (x3 : Int32) (x4 : Int32) (m : dc_M) : Option (Int32 × dc_M) := dc_lp (d_X10_stuck_l32s x0 x1) (x2, x3, x4, m)
set_option maxHeartbeats 8000000 in
theorem k_X10_stuck_l32 {u : Nat} {Φ : (Option (Int32 × dc_M)) → Option Value → dc_M → Prop} (x0 : Nat) (x1 : Int32) (kR : ∀ (v : Int32) (m : dc_M), Φ (some ((v, m))) (some (.int v)) m) : ∀ (N : Nat), ∀ (x2 : Int32) (x3 : Int32) (x4 : Int32) (m : dc_M) (lv : ab_L), ab_lk lv 0 = some (.ref x0) → ab_lk lv 1 = some (.int x1) → ab_lk lv 2 = some (.int x2) → ab_lk lv 3 = some (.int x3) → ab_lk lv 4 = some (.int x4) → dc_pv u N ab_M_X10_stuck 32 lv [] m (Φ (d_X10_stuck_l32 x0 x1 x2 x3 x4 m)) := by
  intro N
  induction N with
  | zero => intros; exact dc_pv_zero
  | succ N ih =>
    intro x2 x3 x4 m lv f0 f1 f2 f3 f4
    refine dc_ok (C := C_X10_stuck) (S := S_X10_stuck) CO_X10_stuck 400 32 [(0, .ref x0), (1, .int x1), (2, .int x2), (3, .int x3), (4, .int x4)] lv [] m (dc_sub_cons f0 (dc_sub_cons f1 (dc_sub_cons f2 (dc_sub_cons f3 (dc_sub_cons f4 (dc_sub_nil)))))) ?_
    unfold d_X10_stuck_l32
    rw [dc_lp_eq]
    show (fun t x => dc_lf u N ab_M_X10_stuck (Φ (Option.bind t (dc_bk (d_X10_stuck_l32s x0 x1)))) x) (d_X10_stuck_l32b x0 x1 x2 x3 x4 m) _
    dsimp only
    unfold d_X10_stuck_l32b
    refine dg_s (pc' := 34) [.int x4] rfl (fun _ => rfl) rfl ?_
    refine dg_s (pc' := 35) [.ref x0, .int x4] rfl (fun _ => rfl) rfl ?_
    refine dg_s (pc' := 38) [.int (m.1 x0 32), .int x4] rfl (fun _ => rfl) rfl ?_
    refine dw_if (fun t => Φ (Option.bind t (dc_bk (d_X10_stuck_l32s x0 x1)))) ((Int32.toInt (m.1 x0 32)) ≤ (Int32.toInt x4)) [] 90 41 rfl (fun _ => rfl) (fun c0 => ?_) (fun c0 => ?_)
    · refine dw_g rfl ?_
      refine dg_s (pc' := 91) [.int (1 : Int32)] rfl (fun _ => rfl) rfl ?_
      refine dw_L (pc' := 93) [(4, .int (1 : Int32)), (0, .ref x0), (1, .int x1), (2, .int x2), (3, .int x3)] [] rfl (fun _ => rfl) ?_
      exact dw_j rfl (fun lv1 hv => k_X10_stuck_l93 (Φ := (fun t => Φ (Option.bind (t.map (fun z => Sum.inr (z))) (dc_bk (d_X10_stuck_l32s x0 x1))))) x0 x1 x2 x3 (fun _a _b => kR _a _b) N  (1 : Int32) m lv1 (hv.1 _ rfl) (hv.2.1 _ rfl) (hv.2.2.1 _ rfl) (hv.2.2.2.1 _ rfl) (hv.2.2.2.2.1 _ rfl))
    · refine dw_g rfl ?_
      refine dg_s (pc' := 42) [.int x2] rfl (fun _ => rfl) rfl ?_
      refine dg_s (pc' := 43) [.ref x0, .int x2] rfl (fun _ => rfl) rfl ?_
      refine dg_s (pc' := 45) [.int x4, .ref x0, .int x2] rfl (fun _ => rfl) rfl ?_
      refine dw_b (fun t => Φ (Option.bind t (dc_bk (d_X10_stuck_l32s x0 x1)))) (pc' := 48) (fun q1 => [.int q1, .int x2]) (fun q1 => m) rfl (fun _ => rfl) (fun q1 => ?_)
      refine dw_g rfl ?_
      refine dw_if (fun t => Φ (Option.bind t (dc_bk (d_X10_stuck_l32s x0 x1)))) (¬ (Int32.toInt q1) = 0) [.int x2] 55 51 rfl (fun _ => rfl) (fun c1 => ?_) (fun c1 => ?_)
      · refine dw_g rfl ?_
        refine dw_s (pc' := 56) [.int (0 : Int32), .int x2] rfl (fun _ => rfl) ?_
        exact dw_j rfl (fun lv1 hv => k_X10_stuck_b56 (Φ := (fun t => Φ (Option.bind t (dc_bk (d_X10_stuck_l32s x0 x1))))) x0 x1 x3 x4 (0 : Int32) x2 m (fun _a _b => kR _a _b) ih (hv.1 _ rfl) (hv.2.1 _ rfl) (hv.2.2.1 _ rfl) (hv.2.2.2.1 _ rfl))
      · refine dw_g rfl ?_
        refine dg_s (pc' := 52) [.int (1 : Int32), .int x2] rfl (fun _ => rfl) rfl ?_
        refine dw_s (pc' := 56) [.int (1 : Int32), .int x2] rfl (fun _ => rfl) ?_
        exact dw_j rfl (fun lv1 hv => k_X10_stuck_b56 (Φ := (fun t => Φ (Option.bind t (dc_bk (d_X10_stuck_l32s x0 x1))))) x0 x1 x3 x4 (1 : Int32) x2 m (fun _a _b => kR _a _b) ih (hv.1 _ rfl) (hv.2.1 _ rfl) (hv.2.2.1 _ rfl) (hv.2.2.2.1 _ rfl))
noncomputable def d_X10_stuck (x0 : Nat) (x1 : Int32) (m : dc_M) : Option (Int32 × dc_M) :=
  (if ¬ (Int32.toInt (d_X10_in (Int32.toInt64 x1) (0 : Int64) (2 : Int64) m)) = 0 then ((d_X10_layStates x0 m).bind (fun q1 => (if (Int32.toInt q1.1) = 1 then (d_X10_stuck_l32 x0 x1 (0 : Int32) (0 : Int32) (0 : Int32) q1.2) else some (((-2 : Int32), q1.2))))) else some (((-1 : Int32), m)))
set_option maxHeartbeats 8000000 in
theorem k_X10_stuck {u : Nat} {N : Nat} {Φ : (Option (Int32 × dc_M)) → Option Value → dc_M → Prop} (x0 : Nat) (x1 : Int32) (m : dc_M) (kR : ∀ (v : Int32) (m : dc_M), Φ (some ((v, m))) (some (.int v)) m)  {lv : ab_L} (f0 : ab_lk lv 0 = some (.ref x0)) (f1 : ab_lk lv 1 = some (.int x1)) : dc_pv u N ab_M_X10_stuck 0 lv [] m (Φ (d_X10_stuck x0 x1 m)) := by
  refine dc_pv.mono (dc_ok (C := C_X10_stuck) (S := S_X10_stuck) CO_X10_stuck 400 0 [(0, .ref x0), (1, .int x1)] lv [] m (dc_sub_cons f0 (dc_sub_cons f1 (dc_sub_nil))) ?_) (Nat.le_succ N)
  unfold d_X10_stuck
  refine dg_s (pc' := 1) [.int x1] rfl (fun _ => rfl) rfl ?_
  refine dg_s (pc' := 2) [.long (Int32.toInt64 x1)] rfl (fun _ => rfl) rfl ?_
  refine dg_s (pc' := 3) [.long (0 : Int64), .long (Int32.toInt64 x1)] rfl (fun _ => rfl) rfl ?_
  refine dg_s (pc' := 6) [.long (2 : Int64), .long (0 : Int64), .long (Int32.toInt64 x1)] rfl (fun _ => rfl) rfl ?_
  refine dg_s (pc' := 9) [.int (d_X10_in (Int32.toInt64 x1) (0 : Int64) (2 : Int64) m)] rfl (fun _ => rfl) rfl ?_
  refine dw_if (fun t => Φ t) (¬ (Int32.toInt (d_X10_in (Int32.toInt64 x1) (0 : Int64) (2 : Int64) m)) = 0) [] 14 12 rfl (fun _ => rfl) (fun c0 => ?_) (fun c0 => ?_)
  · refine dw_g rfl ?_
    refine dg_s (pc' := 15) [.ref x0] rfl (fun _ => rfl) rfl ?_
    refine dw_b (fun t => Φ t) (pc' := 18) (fun q1 => [.int q1.1]) (fun q1 => q1.2) rfl (fun _ => rfl) (fun q1 => ?_)
    refine dw_g rfl ?_
    refine dg_s (pc' := 19) [.int (1 : Int32), .int q1.1] rfl (fun _ => rfl) rfl ?_
    refine dw_if (fun t => Φ t) ((Int32.toInt q1.1) = 1) [] 25 22 rfl (fun _ => rfl) (fun c1 => ?_) (fun c1 => ?_)
    · refine dw_g rfl ?_
      refine dg_s (pc' := 26) [.int (0 : Int32)] rfl (fun _ => rfl) rfl ?_
      refine dg_L (pc' := 27) [(2, .int (0 : Int32)), (0, .ref x0), (1, .int x1)] [] rfl (fun _ => rfl) rfl ?_
      refine dg_s (pc' := 28) [.int (0 : Int32)] rfl (fun _ => rfl) rfl ?_
      refine dg_L (pc' := 29) [(3, .int (0 : Int32)), (2, .int (0 : Int32)), (0, .ref x0), (1, .int x1)] [] rfl (fun _ => rfl) rfl ?_
      refine dg_s (pc' := 30) [.int (0 : Int32)] rfl (fun _ => rfl) rfl ?_
      refine dw_L (pc' := 32) [(4, .int (0 : Int32)), (3, .int (0 : Int32)), (2, .int (0 : Int32)), (0, .ref x0), (1, .int x1)] [] rfl (fun _ => rfl) ?_
      exact dw_j rfl (fun lv1 hv => k_X10_stuck_l32 (Φ := (fun t => Φ t)) x0 x1 (fun _a _b => kR _a _b) N  (0 : Int32) (0 : Int32) (0 : Int32) q1.2 lv1 (hv.1 _ rfl) (hv.2.1 _ rfl) (hv.2.2.1 _ rfl) (hv.2.2.2.1 _ rfl) (hv.2.2.2.2.1 _ rfl))
    · refine dw_g rfl ?_
      refine dg_s (pc' := 24) [.int (-2 : Int32)] rfl (fun _ => rfl) rfl ?_
      exact dw_r (some (.inl (some (.int (-2 : Int32)), q1.2))) rfl (fun _ => rfl) (kR _ _)
  · refine dw_g rfl ?_
    refine dg_s (pc' := 13) [.int (-1 : Int32)] rfl (fun _ => rfl) rfl ?_
    exact dw_r (some (.inl (some (.int (-1 : Int32)), m))) rfl (fun _ => rfl) (kR _ _)
noncomputable def H_X10_stuck : dc_H := fun As m k => match As with
  | [.ref x0, .int x1] => (d_X10_stuck x0 x1 m).bind (fun q => k (some (.int q.1)) q.2)
  | _ => dc_kz
theorem H_X10_stuck_ok {u : Nat} : dc_cok u 187 H_X10_stuck := fun M' hG N As m k P hz hP => by
  obtain rfl : ab_M_X10_stuck = M' := Option.some.inj hG
  unfold H_X10_stuck at hP
  split at hP
  · rename_i x0 x1
    exact dc_pv.imp (k_X10_stuck (Φ := fun (t : Option (Int32 × dc_M)) r m' => P (t.bind (fun q => k (some (.int q.1)) q.2)) → P (k r m')) x0 x1 m (fun _ _ h => h) rfl rfl) (fun r m' h => h hP)
  · exact absurd hP hz
def C_X3_hasWire : List (Nat × dc_H) := []
theorem CO_X3_hasWire {u : Nat} : dc_CO u C_X3_hasWire := dc_CO_nil
def S_X3_hasWire : List (Nat × List Nat) := []
def d_X3_hasWire (x0 : Nat) (x1 : Int32) (m : dc_M) : Int32 :=
  (if (Int32.toInt x1) < 0 then (0 : Int32) else (if (Int32.toInt (m.1 x0 0)) ≤ (Int32.toInt x1) then (0 : Int32) else (1 : Int32)))
set_option maxHeartbeats 8000000 in
theorem k_X3_hasWire {u : Nat} {N : Nat} {Φ : Int32 → Option Value → dc_M → Prop} (x0 : Nat) (x1 : Int32) (m : dc_M) (kR : ∀ (v : Int32), Φ (v) (some (.int v)) m)  {lv : ab_L} (f0 : ab_lk lv 0 = some (.ref x0)) (f1 : ab_lk lv 1 = some (.int x1)) : dc_pv u N ab_M_X3_hasWire 0 lv [] m (Φ (d_X3_hasWire x0 x1 m)) := by
  refine dc_pv.mono (dc_ok (C := C_X3_hasWire) (S := S_X3_hasWire) CO_X3_hasWire 400 0 [(0, .ref x0), (1, .int x1)] lv [] m (dc_sub_cons f0 (dc_sub_cons f1 (dc_sub_nil))) ?_) (Nat.le_succ N)
  unfold d_X3_hasWire
  refine dg_s (pc' := 1) [.int x1] rfl (fun _ => rfl) rfl ?_
  refine dw_if (fun t => Φ t) ((Int32.toInt x1) < 0) [] 16 4 rfl (fun _ => rfl) (fun c0 => ?_) (fun c0 => ?_)
  · refine dw_g rfl ?_
    refine dg_s (pc' := 17) [.int (0 : Int32)] rfl (fun _ => rfl) rfl ?_
    exact dw_r (some (.inl (some (.int (0 : Int32)), m))) rfl (fun _ => rfl) (kR _)
  · refine dw_g rfl ?_
    refine dg_s (pc' := 5) [.int x1] rfl (fun _ => rfl) rfl ?_
    refine dg_s (pc' := 6) [.ref x0, .int x1] rfl (fun _ => rfl) rfl ?_
    refine dg_s (pc' := 9) [.int (m.1 x0 0), .int x1] rfl (fun _ => rfl) rfl ?_
    refine dw_if (fun t => Φ t) ((Int32.toInt (m.1 x0 0)) ≤ (Int32.toInt x1)) [] 16 12 rfl (fun _ => rfl) (fun c1 => ?_) (fun c1 => ?_)
    · refine dw_g rfl ?_
      refine dg_s (pc' := 17) [.int (0 : Int32)] rfl (fun _ => rfl) rfl ?_
      exact dw_r (some (.inl (some (.int (0 : Int32)), m))) rfl (fun _ => rfl) (kR _)
    · refine dw_g rfl ?_
      refine dg_s (pc' := 13) [.int (1 : Int32)] rfl (fun _ => rfl) rfl ?_
      refine dg_s (pc' := 17) [.int (1 : Int32)] rfl (fun _ => rfl) rfl ?_
      exact dw_r (some (.inl (some (.int (1 : Int32)), m))) rfl (fun _ => rfl) (kR _)
def H_X3_hasWire : dc_H := fun As m k => match As with
  | [.ref x0, .int x1] => k (some (.int (d_X3_hasWire x0 x1 m))) m
  | _ => dc_kz
theorem H_X3_hasWire_ok {u : Nat} : dc_cok u 25 H_X3_hasWire := fun M' hG N As m k P hz hP => by
  obtain rfl : ab_M_X3_hasWire = M' := Option.some.inj hG
  unfold H_X3_hasWire at hP
  split at hP
  · rename_i x0 x1
    exact dc_pv.imp (k_X3_hasWire (Φ := fun (t : Int32) r m' => P (k (some (.int t)) m) → P (k r m')) x0 x1 m (fun _  h => h) rfl rfl) (fun r m' h => h hP)
  · exact absurd hP hz
def C_X8_gather : List (Nat × dc_H) := [(83, H_X7_aims)]
theorem CO_X8_gather {u : Nat} : dc_CO u C_X8_gather := dc_CO_cons H_X7_aims_ok (dc_CO_nil)
def S_X8_gather : List (Nat × List Nat) := [(17, [0, 2, 3]), (57, [0, 2, 3]), (85, [0, 2, 3, 4, 6, 7])]
noncomputable def d_X8_gather_l85b (x0 : Nat) (x2 : Nat) (x3 : Int32) (x4 : Int64) (x6 : Int32) (x7 : Int32) (m : dc_M) : Option ((Int32 × dc_M) ⊕ ((Int32 × dc_M) ⊕ dc_M)) :=
  (if (Int32.toInt (m.1 x0 6)) ≤ (Int32.toInt x7) then some (Sum.inr (Sum.inl ((x3 + (1 : Int32)), m))) else (if (Int32.toInt ((x6 >>> (x7 &&& 31)) &&& (1 : Int32))) = 0 then some (Sum.inl ((x7 + (1 : Int32)), (dc_wl m (x0 + 2) (Int32.toNatClampNeg x7) ((m.2.1 (x0 + 2) (Int32.toNatClampNeg x7)) ||| x4)))) else some (Sum.inl ((x7 + (1 : Int32)), (dc_wl m (x0 + 1) (Int32.toNatClampNeg x7) ((m.2.1 (x0 + 1) (Int32.toNatClampNeg x7)) ||| x4))))))
noncomputable def d_X8_gather_l85s (x0 : Nat) (x2 : Nat) (x3 : Int32) (x4 : Int64) (x6 : Int32) : (Int32 × dc_M) → Option ((Int32 × dc_M) ⊕ ((Int32 × dc_M) ⊕ dc_M)) := fun s => d_X8_gather_l85b x0 x2 x3 x4 x6 s.1 s.2
noncomputable def d_X8_gather_l85 (x0 : Nat) (x2 : Nat) (x3 : Int32) (x4 : Int64) (x6 : Int32) (x7 : Int32) (m : dc_M) : Option ((Int32 × dc_M) ⊕ dc_M) := dc_lp (d_X8_gather_l85s x0 x2 x3 x4 x6) (x7, m)
set_option maxHeartbeats 8000000 in
theorem k_X8_gather_l85 {u : Nat} {Φ : (Option ((Int32 × dc_M) ⊕ dc_M)) → Option Value → dc_M → Prop} (x0 : Nat) (x2 : Nat) (x3 : Int32) (x4 : Int64) (x6 : Int32) (kR : ∀  (m : dc_M), Φ (some (Sum.inr (m))) (none) m) : ∀ (N : Nat), (∀ (x3 : Int32) (m : dc_M) (lv : ab_L), ab_lk lv 0 = some (.ref x0) → ab_lk lv 2 = some (.ref x2) → ab_lk lv 3 = some (.int x3) →  dc_pv u N ab_M_X8_gather 57 lv [] m (Φ (some (Sum.inl (x3, m))))) → ∀ (x7 : Int32) (m : dc_M) (lv : ab_L), ab_lk lv 0 = some (.ref x0) → ab_lk lv 2 = some (.ref x2) → ab_lk lv 3 = some (.int x3) → ab_lk lv 4 = some (.long x4) → ab_lk lv 6 = some (.int x6) → ab_lk lv 7 = some (.int x7) → dc_pv u N ab_M_X8_gather 85 lv [] m (Φ (d_X8_gather_l85 x0 x2 x3 x4 x6 x7 m)) := by
  intro N
  induction N with
  | zero => intros; exact dc_pv_zero
  | succ N ih =>
    intro k57 x7 m lv f0 f2 f3 f4 f6 f7
    have k57 := fun a0 a1 a2 a3 a4 a5 => (k57 a0 a1 a2 a3 a4 a5).mono (Nat.le_succ N)
    have ih := ih k57
    refine dc_ok (C := C_X8_gather) (S := S_X8_gather) CO_X8_gather 400 85 [(0, .ref x0), (2, .ref x2), (3, .int x3), (4, .long x4), (6, .int x6), (7, .int x7)] lv [] m (dc_sub_cons f0 (dc_sub_cons f2 (dc_sub_cons f3 (dc_sub_cons f4 (dc_sub_cons f6 (dc_sub_cons f7 (dc_sub_nil))))))) ?_
    unfold d_X8_gather_l85
    rw [dc_lp_eq]
    show (fun t x => dc_lf u N ab_M_X8_gather (Φ (Option.bind t (dc_bk (d_X8_gather_l85s x0 x2 x3 x4 x6)))) x) (d_X8_gather_l85b x0 x2 x3 x4 x6 x7 m) _
    dsimp only
    unfold d_X8_gather_l85b
    refine dg_s (pc' := 87) [.int x7] rfl (fun _ => rfl) rfl ?_
    refine dg_s (pc' := 88) [.ref x0, .int x7] rfl (fun _ => rfl) rfl ?_
    refine dg_s (pc' := 91) [.int (m.1 x0 6), .int x7] rfl (fun _ => rfl) rfl ?_
    refine dw_if (fun t => Φ (Option.bind t (dc_bk (d_X8_gather_l85s x0 x2 x3 x4 x6)))) ((Int32.toInt (m.1 x0 6)) ≤ (Int32.toInt x7)) [] 137 94 rfl (fun _ => rfl) (fun c0 => ?_) (fun c0 => ?_)
    · refine dw_g rfl ?_
      refine dg_L (pc' := 140) [(3, .int (x3 + (1 : Int32))), (0, .ref x0), (2, .ref x2), (4, .long x4), (6, .int x6), (7, .int x7)] [] rfl (fun _ => rfl) rfl ?_
      refine dw_s (pc' := 57) [] rfl (fun _ => rfl) ?_
      exact dw_j rfl (fun lv1 hv => k57 (x3 + (1 : Int32)) m lv1 (hv.1 _ rfl) (hv.2.1 _ rfl) (hv.2.2.1 _ rfl))
    · refine dw_g rfl ?_
      refine dg_s (pc' := 96) [.int x6] rfl (fun _ => rfl) rfl ?_
      refine dg_s (pc' := 98) [.int x7, .int x6] rfl (fun _ => rfl) rfl ?_
      refine dg_s (pc' := 99) [.int (x6 >>> (x7 &&& 31))] rfl (fun _ => rfl) rfl ?_
      refine dg_s (pc' := 100) [.int (1 : Int32), .int (x6 >>> (x7 &&& 31))] rfl (fun _ => rfl) rfl ?_
      refine dg_s (pc' := 101) [.int ((x6 >>> (x7 &&& 31)) &&& (1 : Int32))] rfl (fun _ => rfl) rfl ?_
      refine dw_if (fun t => Φ (Option.bind t (dc_bk (d_X8_gather_l85s x0 x2 x3 x4 x6)))) ((Int32.toInt ((x6 >>> (x7 &&& 31)) &&& (1 : Int32))) = 0) [] 119 104 rfl (fun _ => rfl) (fun c1 => ?_) (fun c1 => ?_)
      · refine dw_g rfl ?_
        refine dg_s (pc' := 120) [.ref x0] rfl (fun _ => rfl) rfl ?_
        refine dg_s (pc' := 123) [.ref (x0 + 2)] rfl (fun _ => rfl) rfl ?_
        refine dg_s (pc' := 125) [.int x7, .ref (x0 + 2)] rfl (fun _ => rfl) rfl ?_
        refine dg_s (pc' := 126) [.int x7, .ref (x0 + 2), .int x7, .ref (x0 + 2)] rfl (fun _ => rfl) rfl ?_
        refine dg_s (pc' := 127) [.long (m.2.1 (x0 + 2) (Int32.toNatClampNeg x7)), .int x7, .ref (x0 + 2)] rfl (fun _ => rfl) rfl ?_
        refine dg_s (pc' := 129) [.long x4, .long (m.2.1 (x0 + 2) (Int32.toNatClampNeg x7)), .int x7, .ref (x0 + 2)] rfl (fun _ => rfl) rfl ?_
        refine dg_s (pc' := 130) [.long ((m.2.1 (x0 + 2) (Int32.toNatClampNeg x7)) ||| x4), .int x7, .ref (x0 + 2)] rfl (fun _ => rfl) rfl ?_
        refine dg_m (pc' := 131) (dc_wl m (x0 + 2) (Int32.toNatClampNeg x7) ((m.2.1 (x0 + 2) (Int32.toNatClampNeg x7)) ||| x4)) [] rfl (fun _ => rfl) rfl ?_
        refine dg_L (pc' := 134) [(7, .int (x7 + (1 : Int32))), (0, .ref x0), (2, .ref x2), (3, .int x3), (4, .long x4), (6, .int x6)] [] rfl (fun _ => rfl) rfl ?_
        refine dw_s (pc' := 85) [] rfl (fun _ => rfl) ?_
        exact dw_j rfl (fun lv1 hv => ih (x7 + (1 : Int32)) (dc_wl m (x0 + 2) (Int32.toNatClampNeg x7) ((m.2.1 (x0 + 2) (Int32.toNatClampNeg x7)) ||| x4)) lv1 (hv.1 _ rfl) (hv.2.1 _ rfl) (hv.2.2.1 _ rfl) (hv.2.2.2.1 _ rfl) (hv.2.2.2.2.1 _ rfl) (hv.2.2.2.2.2.1 _ rfl))
      · refine dw_g rfl ?_
        refine dg_s (pc' := 105) [.ref x0] rfl (fun _ => rfl) rfl ?_
        refine dg_s (pc' := 108) [.ref (x0 + 1)] rfl (fun _ => rfl) rfl ?_
        refine dg_s (pc' := 110) [.int x7, .ref (x0 + 1)] rfl (fun _ => rfl) rfl ?_
        refine dg_s (pc' := 111) [.int x7, .ref (x0 + 1), .int x7, .ref (x0 + 1)] rfl (fun _ => rfl) rfl ?_
        refine dg_s (pc' := 112) [.long (m.2.1 (x0 + 1) (Int32.toNatClampNeg x7)), .int x7, .ref (x0 + 1)] rfl (fun _ => rfl) rfl ?_
        refine dg_s (pc' := 114) [.long x4, .long (m.2.1 (x0 + 1) (Int32.toNatClampNeg x7)), .int x7, .ref (x0 + 1)] rfl (fun _ => rfl) rfl ?_
        refine dg_s (pc' := 115) [.long ((m.2.1 (x0 + 1) (Int32.toNatClampNeg x7)) ||| x4), .int x7, .ref (x0 + 1)] rfl (fun _ => rfl) rfl ?_
        refine dg_m (pc' := 116) (dc_wl m (x0 + 1) (Int32.toNatClampNeg x7) ((m.2.1 (x0 + 1) (Int32.toNatClampNeg x7)) ||| x4)) [] rfl (fun _ => rfl) rfl ?_
        refine dg_s (pc' := 131) [] rfl (fun _ => rfl) rfl ?_
        refine dg_L (pc' := 134) [(7, .int (x7 + (1 : Int32))), (0, .ref x0), (2, .ref x2), (3, .int x3), (4, .long x4), (6, .int x6)] [] rfl (fun _ => rfl) rfl ?_
        refine dw_s (pc' := 85) [] rfl (fun _ => rfl) ?_
        exact dw_j rfl (fun lv1 hv => ih (x7 + (1 : Int32)) (dc_wl m (x0 + 1) (Int32.toNatClampNeg x7) ((m.2.1 (x0 + 1) (Int32.toNatClampNeg x7)) ||| x4)) lv1 (hv.1 _ rfl) (hv.2.1 _ rfl) (hv.2.2.1 _ rfl) (hv.2.2.2.1 _ rfl) (hv.2.2.2.2.1 _ rfl) (hv.2.2.2.2.2.1 _ rfl))
noncomputable def d_X8_gather_l57b (x0 : Nat) (x2 : Nat) (x3 : Int32) (m : dc_M) : Option ((Int32 × dc_M) ⊕ dc_M) :=
  (if (Int32.toInt (m.1 x2 0)) ≤ (Int32.toInt x3) then some (Sum.inr (m)) else (d_X8_gather_l85 x0 x2 x3 ((1 : Int64) <<< (Int32.toInt64 (m.1 (x2 + 3) (Int32.toNatClampNeg x3)) &&& 63)) (d_X7_aims x2 x3 m) (0 : Int32) m))
noncomputable def d_X8_gather_l57s (x0 : Nat) (x2 : Nat) : (Int32 × dc_M) → Option ((Int32 × dc_M) ⊕ dc_M) := fun s => d_X8_gather_l57b x0 x2 s.1 s.2
noncomputable def d_X8_gather_l57 (x0 : Nat) (x2 : Nat) (x3 : Int32) (m : dc_M) : Option dc_M := dc_lp (d_X8_gather_l57s x0 x2) (x3, m)
set_option maxHeartbeats 8000000 in
theorem k_X8_gather_l57 {u : Nat} {Φ : (Option dc_M) → Option Value → dc_M → Prop} (x0 : Nat) (x2 : Nat) (kR : ∀  (m : dc_M), Φ (some (m)) (none) m) : ∀ (N : Nat), ∀ (x3 : Int32) (m : dc_M) (lv : ab_L), ab_lk lv 0 = some (.ref x0) → ab_lk lv 2 = some (.ref x2) → ab_lk lv 3 = some (.int x3) → dc_pv u N ab_M_X8_gather 57 lv [] m (Φ (d_X8_gather_l57 x0 x2 x3 m)) := by
  intro N
  induction N with
  | zero => intros; exact dc_pv_zero
  | succ N ih =>
    intro x3 m lv f0 f2 f3
    refine dc_ok (C := C_X8_gather) (S := S_X8_gather) CO_X8_gather 400 57 [(0, .ref x0), (2, .ref x2), (3, .int x3)] lv [] m (dc_sub_cons f0 (dc_sub_cons f2 (dc_sub_cons f3 (dc_sub_nil)))) ?_
    unfold d_X8_gather_l57
    rw [dc_lp_eq]
    show (fun t x => dc_lf u N ab_M_X8_gather (Φ (Option.bind t (dc_bk (d_X8_gather_l57s x0 x2)))) x) (d_X8_gather_l57b x0 x2 x3 m) _
    dsimp only
    unfold d_X8_gather_l57b
    refine dg_s (pc' := 58) [.int x3] rfl (fun _ => rfl) rfl ?_
    refine dg_s (pc' := 59) [.ref x2, .int x3] rfl (fun _ => rfl) rfl ?_
    refine dg_s (pc' := 62) [.int (m.1 x2 0), .int x3] rfl (fun _ => rfl) rfl ?_
    refine dw_if (fun t => Φ (Option.bind t (dc_bk (d_X8_gather_l57s x0 x2)))) ((Int32.toInt (m.1 x2 0)) ≤ (Int32.toInt x3)) [] 143 65 rfl (fun _ => rfl) (fun c0 => ?_) (fun c0 => ?_)
    · refine dw_g rfl ?_
      exact dw_r (some (.inl (none, m))) rfl (fun _ => rfl) (kR _)
    · refine dw_g rfl ?_
      refine dg_s (pc' := 66) [.long (1 : Int64)] rfl (fun _ => rfl) rfl ?_
      refine dg_s (pc' := 67) [.ref x2, .long (1 : Int64)] rfl (fun _ => rfl) rfl ?_
      refine dg_s (pc' := 70) [.ref (x2 + 3), .long (1 : Int64)] rfl (fun _ => rfl) rfl ?_
      refine dg_s (pc' := 71) [.int x3, .ref (x2 + 3), .long (1 : Int64)] rfl (fun _ => rfl) rfl ?_
      refine dg_s (pc' := 72) [.int (m.1 (x2 + 3) (Int32.toNatClampNeg x3)), .long (1 : Int64)] rfl (fun _ => rfl) rfl ?_
      refine dg_s (pc' := 73) [.long ((1 : Int64) <<< (Int32.toInt64 (m.1 (x2 + 3) (Int32.toNatClampNeg x3)) &&& 63))] rfl (fun _ => rfl) rfl ?_
      refine dg_L (pc' := 75) [(4, .long ((1 : Int64) <<< (Int32.toInt64 (m.1 (x2 + 3) (Int32.toNatClampNeg x3)) &&& 63))), (0, .ref x0), (2, .ref x2), (3, .int x3)] [] rfl (fun _ => rfl) rfl ?_
      refine dg_s (pc' := 76) [.ref x2] rfl (fun _ => rfl) rfl ?_
      refine dg_s (pc' := 77) [.int x3, .ref x2] rfl (fun _ => rfl) rfl ?_
      refine dg_s (pc' := 80) [.int (d_X7_aims x2 x3 m)] rfl (fun _ => rfl) rfl ?_
      refine dg_L (pc' := 82) [(6, .int (d_X7_aims x2 x3 m)), (4, .long ((1 : Int64) <<< (Int32.toInt64 (m.1 (x2 + 3) (Int32.toNatClampNeg x3)) &&& 63))), (0, .ref x0), (2, .ref x2), (3, .int x3)] [] rfl (fun _ => rfl) rfl ?_
      refine dg_s (pc' := 83) [.int (0 : Int32)] rfl (fun _ => rfl) rfl ?_
      refine dw_L (pc' := 85) [(7, .int (0 : Int32)), (6, .int (d_X7_aims x2 x3 m)), (4, .long ((1 : Int64) <<< (Int32.toInt64 (m.1 (x2 + 3) (Int32.toNatClampNeg x3)) &&& 63))), (0, .ref x0), (2, .ref x2), (3, .int x3)] [] rfl (fun _ => rfl) ?_
      exact dw_j rfl (fun lv1 hv => k_X8_gather_l85 (Φ := (fun t => Φ (Option.bind t (dc_bk (d_X8_gather_l57s x0 x2))))) x0 x2 x3 ((1 : Int64) <<< (Int32.toInt64 (m.1 (x2 + 3) (Int32.toNatClampNeg x3)) &&& 63)) (d_X7_aims x2 x3 m) (fun _b => kR _b) N ih (0 : Int32) m lv1 (hv.1 _ rfl) (hv.2.1 _ rfl) (hv.2.2.1 _ rfl) (hv.2.2.2.1 _ rfl) (hv.2.2.2.2.1 _ rfl) (hv.2.2.2.2.2.1 _ rfl))
noncomputable def d_X8_gather_l17b (x0 : Nat) (x2 : Nat) (x3 : Int32) (m : dc_M) : Option ((Int32 × dc_M) ⊕ dc_M) :=
  (if (Int32.toInt (m.1 x0 6)) ≤ (Int32.toInt x3) then ((d_X8_gather_l57 x0 x2 (0 : Int32) m).map (fun z => Sum.inr (z))) else some (Sum.inl ((x3 + (1 : Int32)), (dc_wl (dc_wl (dc_wi m x0 7 ((m.1 x0 7) * (3 : Int32))) (x0 + 1) (Int32.toNatClampNeg x3) (0 : Int64)) (x0 + 2) (Int32.toNatClampNeg x3) (0 : Int64)))))
noncomputable def d_X8_gather_l17s (x0 : Nat) (x2 : Nat) : (Int32 × dc_M) → Option ((Int32 × dc_M) ⊕ dc_M) := fun s => d_X8_gather_l17b x0 x2 s.1 s.2
noncomputable def d_X8_gather_l17 (x0 : Nat) (x2 : Nat) (x3 : Int32) (m : dc_M) : Option dc_M := dc_lp (d_X8_gather_l17s x0 x2) (x3, m)
set_option maxHeartbeats 8000000 in
theorem k_X8_gather_l17 {u : Nat} {Φ : (Option dc_M) → Option Value → dc_M → Prop} (x0 : Nat) (x2 : Nat) (kR : ∀  (m : dc_M), Φ (some (m)) (none) m) : ∀ (N : Nat), ∀ (x3 : Int32) (m : dc_M) (lv : ab_L), ab_lk lv 0 = some (.ref x0) → ab_lk lv 2 = some (.ref x2) → ab_lk lv 3 = some (.int x3) → dc_pv u N ab_M_X8_gather 17 lv [] m (Φ (d_X8_gather_l17 x0 x2 x3 m)) := by
  intro N
  induction N with
  | zero => intros; exact dc_pv_zero
  | succ N ih =>
    intro x3 m lv f0 f2 f3
    refine dc_ok (C := C_X8_gather) (S := S_X8_gather) CO_X8_gather 400 17 [(0, .ref x0), (2, .ref x2), (3, .int x3)] lv [] m (dc_sub_cons f0 (dc_sub_cons f2 (dc_sub_cons f3 (dc_sub_nil)))) ?_
    unfold d_X8_gather_l17
    rw [dc_lp_eq]
    show (fun t x => dc_lf u N ab_M_X8_gather (Φ (Option.bind t (dc_bk (d_X8_gather_l17s x0 x2)))) x) (d_X8_gather_l17b x0 x2 x3 m) _
    dsimp only
    unfold d_X8_gather_l17b
    refine dg_s (pc' := 18) [.int x3] rfl (fun _ => rfl) rfl ?_
    refine dg_s (pc' := 19) [.ref x0, .int x3] rfl (fun _ => rfl) rfl ?_
    refine dg_s (pc' := 22) [.int (m.1 x0 6), .int x3] rfl (fun _ => rfl) rfl ?_
    refine dw_if (fun t => Φ (Option.bind t (dc_bk (d_X8_gather_l17s x0 x2)))) ((Int32.toInt (m.1 x0 6)) ≤ (Int32.toInt x3)) [] 55 25 rfl (fun _ => rfl) (fun c0 => ?_) (fun c0 => ?_)
    · refine dw_g rfl ?_
      refine dg_s (pc' := 56) [.int (0 : Int32)] rfl (fun _ => rfl) rfl ?_
      refine dw_L (pc' := 57) [(3, .int (0 : Int32)), (0, .ref x0), (2, .ref x2)] [] rfl (fun _ => rfl) ?_
      exact dw_j rfl (fun lv1 hv => k_X8_gather_l57 (Φ := (fun t => Φ (Option.bind (t.map (fun z => Sum.inr (z))) (dc_bk (d_X8_gather_l17s x0 x2))))) x0 x2 (fun _b => kR _b) N  (0 : Int32) m lv1 (hv.1 _ rfl) (hv.2.1 _ rfl) (hv.2.2.1 _ rfl))
    · refine dw_g rfl ?_
      refine dg_s (pc' := 26) [.ref x0] rfl (fun _ => rfl) rfl ?_
      refine dg_s (pc' := 27) [.ref x0, .ref x0] rfl (fun _ => rfl) rfl ?_
      refine dg_s (pc' := 30) [.int (m.1 x0 7), .ref x0] rfl (fun _ => rfl) rfl ?_
      refine dg_s (pc' := 31) [.int (3 : Int32), .int (m.1 x0 7), .ref x0] rfl (fun _ => rfl) rfl ?_
      refine dg_s (pc' := 32) [.int ((m.1 x0 7) * (3 : Int32)), .ref x0] rfl (fun _ => rfl) rfl ?_
      refine dg_m (pc' := 35) (dc_wi m x0 7 ((m.1 x0 7) * (3 : Int32))) [] rfl (fun _ => rfl) rfl ?_
      refine dg_s (pc' := 36) [.ref x0] rfl (fun _ => rfl) rfl ?_
      refine dg_s (pc' := 39) [.ref (x0 + 1)] rfl (fun _ => rfl) rfl ?_
      refine dg_s (pc' := 40) [.int x3, .ref (x0 + 1)] rfl (fun _ => rfl) rfl ?_
      refine dg_s (pc' := 41) [.long (0 : Int64), .int x3, .ref (x0 + 1)] rfl (fun _ => rfl) rfl ?_
      refine dg_m (pc' := 42) (dc_wl (dc_wi m x0 7 ((m.1 x0 7) * (3 : Int32))) (x0 + 1) (Int32.toNatClampNeg x3) (0 : Int64)) [] rfl (fun _ => rfl) rfl ?_
      refine dg_s (pc' := 43) [.ref x0] rfl (fun _ => rfl) rfl ?_
      refine dg_s (pc' := 46) [.ref (x0 + 2)] rfl (fun _ => rfl) rfl ?_
      refine dg_s (pc' := 47) [.int x3, .ref (x0 + 2)] rfl (fun _ => rfl) rfl ?_
      refine dg_s (pc' := 48) [.long (0 : Int64), .int x3, .ref (x0 + 2)] rfl (fun _ => rfl) rfl ?_
      refine dg_m (pc' := 49) (dc_wl (dc_wl (dc_wi m x0 7 ((m.1 x0 7) * (3 : Int32))) (x0 + 1) (Int32.toNatClampNeg x3) (0 : Int64)) (x0 + 2) (Int32.toNatClampNeg x3) (0 : Int64)) [] rfl (fun _ => rfl) rfl ?_
      refine dg_L (pc' := 52) [(3, .int (x3 + (1 : Int32))), (0, .ref x0), (2, .ref x2)] [] rfl (fun _ => rfl) rfl ?_
      refine dw_s (pc' := 17) [] rfl (fun _ => rfl) ?_
      exact dw_j rfl (fun lv1 hv => ih (x3 + (1 : Int32)) (dc_wl (dc_wl (dc_wi m x0 7 ((m.1 x0 7) * (3 : Int32))) (x0 + 1) (Int32.toNatClampNeg x3) (0 : Int64)) (x0 + 2) (Int32.toNatClampNeg x3) (0 : Int64)) lv1 (hv.1 _ rfl) (hv.2.1 _ rfl) (hv.2.2.1 _ rfl))
noncomputable def d_X8_gather (x0 : Nat) (x1 : Int32) (x2 : Nat) (m : dc_M) : Option dc_M :=
  (d_X8_gather_l17 x0 x2 (0 : Int32) (dc_wi (dc_wi (dc_wi m x0 6 x1) x0 8 (0 : Int32)) x0 7 (1 : Int32)))
set_option maxHeartbeats 8000000 in
theorem k_X8_gather {u : Nat} {N : Nat} {Φ : (Option dc_M) → Option Value → dc_M → Prop} (x0 : Nat) (x1 : Int32) (x2 : Nat) (m : dc_M) (kR : ∀  (m : dc_M), Φ (some (m)) (none) m)  {lv : ab_L} (f0 : ab_lk lv 0 = some (.ref x0)) (f1 : ab_lk lv 1 = some (.int x1)) (f2 : ab_lk lv 2 = some (.ref x2)) : dc_pv u N ab_M_X8_gather 0 lv [] m (Φ (d_X8_gather x0 x1 x2 m)) := by
  refine dc_pv.mono (dc_ok (C := C_X8_gather) (S := S_X8_gather) CO_X8_gather 400 0 [(0, .ref x0), (1, .int x1), (2, .ref x2)] lv [] m (dc_sub_cons f0 (dc_sub_cons f1 (dc_sub_cons f2 (dc_sub_nil)))) ?_) (Nat.le_succ N)
  unfold d_X8_gather
  refine dg_s (pc' := 1) [.ref x0] rfl (fun _ => rfl) rfl ?_
  refine dg_s (pc' := 2) [.int x1, .ref x0] rfl (fun _ => rfl) rfl ?_
  refine dg_m (pc' := 5) (dc_wi m x0 6 x1) [] rfl (fun _ => rfl) rfl ?_
  refine dg_s (pc' := 6) [.ref x0] rfl (fun _ => rfl) rfl ?_
  refine dg_s (pc' := 7) [.int (0 : Int32), .ref x0] rfl (fun _ => rfl) rfl ?_
  refine dg_m (pc' := 10) (dc_wi (dc_wi m x0 6 x1) x0 8 (0 : Int32)) [] rfl (fun _ => rfl) rfl ?_
  refine dg_s (pc' := 11) [.ref x0] rfl (fun _ => rfl) rfl ?_
  refine dg_s (pc' := 12) [.int (1 : Int32), .ref x0] rfl (fun _ => rfl) rfl ?_
  refine dg_m (pc' := 15) (dc_wi (dc_wi (dc_wi m x0 6 x1) x0 8 (0 : Int32)) x0 7 (1 : Int32)) [] rfl (fun _ => rfl) rfl ?_
  refine dg_s (pc' := 16) [.int (0 : Int32)] rfl (fun _ => rfl) rfl ?_
  refine dw_L (pc' := 17) [(3, .int (0 : Int32)), (0, .ref x0), (1, .int x1), (2, .ref x2)] [] rfl (fun _ => rfl) ?_
  exact dw_j rfl (fun lv1 hv => k_X8_gather_l17 (Φ := (fun t => Φ t)) x0 x2 (fun _b => kR _b) N  (0 : Int32) (dc_wi (dc_wi (dc_wi m x0 6 x1) x0 8 (0 : Int32)) x0 7 (1 : Int32)) lv1 (hv.1 _ rfl) (hv.2.1 _ rfl) (hv.2.2.1 _ rfl))
noncomputable def H_X8_gather : dc_H := fun As m k => match As with
  | [.ref x0, .int x1, .ref x2] => (d_X8_gather x0 x1 x2 m).bind (fun q => k (none) q)
  | _ => dc_kz
theorem H_X8_gather_ok {u : Nat} : dc_cok u 93 H_X8_gather := fun M' hG N As m k P hz hP => by
  obtain rfl : ab_M_X8_gather = M' := Option.some.inj hG
  unfold H_X8_gather at hP
  split at hP
  · rename_i x0 x1 x2
    exact dc_pv.imp (k_X8_gather (Φ := fun (t : Option dc_M) r m' => P (t.bind (fun q => k (none) q)) → P (k r m')) x0 x1 x2 m (fun _ h => h) rfl rfl rfl) (fun r m' h => h hP)
  · exact absurd hP hz
